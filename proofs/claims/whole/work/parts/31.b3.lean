theorem EX3_tellApart {N : Nat} {σ : Sg} {Q : Option Value → Sg → Prop} {x1 : Int32} {x2 : Int32} {x3 : Int32} (h : ((0 ≤ (x1).toInt ∧ (x1).toInt < (σ.1 1 3).toInt) → ((0 ≤ (x2).toInt ∧ (x2).toInt < (σ.1 1 3).toInt) → (x1 = x2 → Q (some (.int (-1))) σ) ∧ (¬ x1 = x2 → (x3 < 0 → Q (some (.int (-1))) σ) ∧ (¬ x3 < 0 → (x3 ≤ 9 → vp_in x1 24 ∧ (vp_in x2 24 ∧ (vp_in x1 24 ∧ (vp_in x2 24 ∧ (vp_in x2 24 ∧ (vp_in x1 24 ∧ (Q (some (.int (σ.1 (24 + (x1).toNatClampNeg) (x2).toNatClampNeg))) (u1 (u1 σ (24 + (x1).toNatClampNeg) (x2).toNatClampNeg x3) (24 + (x2).toNatClampNeg) (x1).toNatClampNeg x3)))))))) ∧ (¬ x3 ≤ 9 → Q (some (.int (-1))) σ)))) ∧ (¬ (0 ≤ (x2).toInt ∧ (x2).toInt < (σ.1 1 3).toInt) → Q (some (.int (-1))) σ)) ∧ (¬ (0 ≤ (x1).toInt ∧ (x1).toInt < (σ.1 1 3).toInt) → Q (some (.int (-1))) σ)) : EvM (N + 1) mX3_tellApart [.ref 22, .int x1, .int x2, .int x3] σ Q := by
  refine ev_entry rfl (Nat.le_of_ble_eq_true rfl) (lv := [(0, .ref 22), (1, .int x1), (2, .int x2), (3, .int x3)]) rfl ?_
  refine ev_aload_n 0 dX3_tellApart_0 rfl ?_
  refine ev_getR (r := 1) G3 lay_22 (k := 0) rfl (Nat.le_of_ble_eq_true rfl) dX3_tellApart_1 w_217 ?_
  refine ev_iload_n 1 dX3_tellApart_4 rfl ?_
  refine ev_callV (M' := mX2_isForm) [.int x1] vX2_isForm G2 lay_1 dX3_tellApart_5 w_714 rfl rfl (Nat.le_of_ble_eq_true rfl) (C2_isForm (Q := fun r9 s9 => σ = s9 ∧ ((r9 = some (.int 1) ∧ (0 ≤ (x1).toInt ∧ (x1).toInt < (σ.1 1 3).toInt)) ∨ (r9 = some (.int 0) ∧ ¬ (0 ≤ (x1).toInt ∧ (x1).toInt < (σ.1 1 3).toInt)))) ⟨fun c9 => ⟨rfl, Or.inl ⟨rfl, c9⟩⟩, fun c9 => ⟨rfl, Or.inr ⟨rfl, c9⟩⟩⟩) ?_
  rintro r9 s9 ⟨rfl, ⟨rfl, c9⟩ | ⟨rfl, c9⟩⟩
  · replace h := h.1 c9
    refine ev_if_eq 37 dX3_tellApart_8 (by decide) (fun c9 => ?_) (fun c9 => ?_)
    · exact absurd c9 (by decide)
    · refine ev_aload_n 0 dX3_tellApart_11 rfl ?_
      refine ev_getR (r := 1) G3 lay_22 (k := 0) rfl (Nat.le_of_ble_eq_true rfl) dX3_tellApart_12 w_217 ?_
      refine ev_iload_n 2 dX3_tellApart_15 rfl ?_
      refine ev_callV (M' := mX2_isForm) [.int x2] vX2_isForm G2 lay_1 dX3_tellApart_16 w_714 rfl rfl (Nat.le_of_ble_eq_true rfl) (C2_isForm (Q := fun r9 s9 => σ = s9 ∧ ((r9 = some (.int 1) ∧ (0 ≤ (x2).toInt ∧ (x2).toInt < (σ.1 1 3).toInt)) ∨ (r9 = some (.int 0) ∧ ¬ (0 ≤ (x2).toInt ∧ (x2).toInt < (σ.1 1 3).toInt)))) ⟨fun c9 => ⟨rfl, Or.inl ⟨rfl, c9⟩⟩, fun c9 => ⟨rfl, Or.inr ⟨rfl, c9⟩⟩⟩) ?_
      rintro r9 s9 ⟨rfl, ⟨rfl, c9⟩ | ⟨rfl, c9⟩⟩
      · replace h := h.1 c9
        refine ev_if_eq 37 dX3_tellApart_19 (by decide) (fun c9 => ?_) (fun c9 => ?_)
        · exact absurd c9 (by decide)
        · refine ev_iload_n 1 dX3_tellApart_22 rfl ?_
          refine ev_iload_n 2 dX3_tellApart_23 rfl ?_
          refine ev_icmp_eq 37 dX3_tellApart_24 (by decide) (fun c9 => ?_) (fun c9 => ?_)
          · replace h := h.1 c9
            refine ev_iconst (-1) dX3_tellApart_37 (by decide) ?_
            exact ev_iret rfl dX3_tellApart_38 h
          · replace h := h.2 c9
            refine ev_iload_n 3 dX3_tellApart_27 rfl ?_
            refine ev_if_lt 37 dX3_tellApart_28 (by decide) (fun c9 => ?_) (fun c9 => ?_)
            · replace h := h.1 c9
              refine ev_iconst (-1) dX3_tellApart_37 (by decide) ?_
              exact ev_iret rfl dX3_tellApart_38 h
            · replace h := h.2 c9
              refine ev_iload_n 3 dX3_tellApart_31 rfl ?_
              refine ev_bipush 9 dX3_tellApart_32 (by decide) ?_
              refine ev_icmp_le 39 dX3_tellApart_34 (by decide) (fun c9 => ?_) (fun c9 => ?_)
              · replace h := h.1 c9
                refine ev_aload_n 0 dX3_tellApart_39 rfl ?_
                refine ev_getR (r := 23) G3 lay_22 (k := 2) rfl (Nat.le_of_ble_eq_true rfl) dX3_tellApart_40 w_219 ?_
                refine ev_iload_n 1 dX3_tellApart_43 rfl ?_
                have hb44 := h.1
                replace h := h.2
                refine ev_aald (b := 24) lay_23 (Nat.le_of_ble_eq_true rfl) hb44 dX3_tellApart_44 ?_
                refine ev_iload_n 2 dX3_tellApart_45 rfl ?_
                have hb46 := h.1
                replace h := h.2
                refine ev_iald (layr_24 _ (Nat.not_le.mp fun q9 => hb44 (Or.inr q9))).1 (layr_24 _ (Nat.not_le.mp fun q9 => hb44 (Or.inr q9))).2 hb46 dX3_tellApart_46 ?_
                refine ev_istore (lv' := [(4, .int (σ.1 (24 + (x1).toNatClampNeg) (x2).toNatClampNeg)), (0, .ref 22), (1, .int x1), (2, .int x2), (3, .int x3)]) dX3_tellApart_47 (Nat.le_of_ble_eq_true rfl) rfl ?_
                refine ev_aload_n 1 dX3_tellApart_49 rfl ?_
                refine ev_getR (r := 23) G3 lay_22 (k := 2) rfl (Nat.le_of_ble_eq_true rfl) dX3_tellApart_50 w_219 ?_
                refine ev_iload_n 2 dX3_tellApart_53 rfl ?_
                have hb54 := h.1
                replace h := h.2
                refine ev_aald (b := 24) lay_23 (Nat.le_of_ble_eq_true rfl) hb54 dX3_tellApart_54 ?_
                refine ev_iload_n 3 dX3_tellApart_55 rfl ?_
                refine ev_iload_n 4 dX3_tellApart_56 rfl ?_
                have hb57 := h.1
                replace h := h.2
                refine ev_iast (layr_24 _ (Nat.not_le.mp fun q9 => hb54 (Or.inr q9))).1 (layr_24 _ (Nat.not_le.mp fun q9 => hb54 (Or.inr q9))).2 hb57 dX3_tellApart_57 ?_
                refine ev_aload_n 1 dX3_tellApart_58 rfl ?_
                refine ev_getR (r := 23) G3 lay_22 (k := 2) rfl (Nat.le_of_ble_eq_true rfl) dX3_tellApart_59 w_219 ?_
                refine ev_iload_n 3 dX3_tellApart_62 rfl ?_
                have hb63 := h.1
                replace h := h.2
                refine ev_aald (b := 24) lay_23 (Nat.le_of_ble_eq_true rfl) hb63 dX3_tellApart_63 ?_
                refine ev_iload_n 2 dX3_tellApart_64 rfl ?_
                refine ev_iload_n 4 dX3_tellApart_65 rfl ?_
                have hb66 := h.1
                replace h := h.2
                refine ev_iast (layr_24 _ (Nat.not_le.mp fun q9 => hb63 (Or.inr q9))).1 (layr_24 _ (Nat.not_le.mp fun q9 => hb63 (Or.inr q9))).2 hb66 dX3_tellApart_66 ?_
                refine ev_iload 0 dX3_tellApart_67 rfl ?_
                exact ev_iret rfl dX3_tellApart_69 h
              · replace h := h.2 c9
                refine ev_iconst (-1) dX3_tellApart_37 (by decide) ?_
                exact ev_iret rfl dX3_tellApart_38 h
      · replace h := h.2 c9
        refine ev_if_eq 37 dX3_tellApart_19 (by decide) (fun c9 => ?_) (fun c9 => ?_)
        · refine ev_iconst (-1) dX3_tellApart_37 (by decide) ?_
          exact ev_iret rfl dX3_tellApart_38 h
        · exact absurd c9 (by decide)
  · replace h := h.2 c9
    refine ev_if_eq 37 dX3_tellApart_8 (by decide) (fun c9 => ?_) (fun c9 => ?_)
    · refine ev_iconst (-1) dX3_tellApart_37 (by decide) ?_
      exact ev_iret rfl dX3_tellApart_38 h
    · exact absurd c9 (by decide)
theorem EX3_akinOf {N : Nat} {σ : Sg} {Q : Option Value → Sg → Prop} {x1 : Int32} {x2 : Int32} (h : EvM (N + 4) mX3_gatherEndings [.ref 22] σ (fun r9 σ1 => r9 = none ∧ (EvM (N + 4) mX3_stemsOfBoth [.ref 22, .int x1, .int x2] σ1 (fun r9 σ2 => ∃ v2, r9 = some (.int v2) ∧ (Q (some (.int v2)) σ2))))) : EvM (N + 5) mX3_akinOf [.ref 22, .int x1, .int x2] σ Q := by
  refine ev_entry rfl (Nat.le_of_ble_eq_true rfl) (lv := [(0, .ref 22), (1, .int x1), (2, .int x2)]) rfl ?_
  refine ev_aload_n 0 dX3_akinOf_0 rfl ?_
  refine ev_callV (M' := mX3_gatherEndings) [] vX3_gatherEndings G3 lay_22 dX3_akinOf_1 w_683 rfl rfl (Nat.le_of_ble_eq_true rfl) h ?_
  rintro r9 σ1 ⟨rfl, h⟩
  refine ev_aload_n 0 dX3_akinOf_4 rfl ?_
  refine ev_iload_n 1 dX3_akinOf_5 rfl ?_
  refine ev_iload_n 2 dX3_akinOf_6 rfl ?_
  refine ev_callV (M' := mX3_stemsOfBoth) [.int x1, .int x2] vX3_stemsOfBoth G3 lay_22 dX3_akinOf_7 w_702 rfl rfl (Nat.le_of_ble_eq_true rfl) h ?_
  rintro r9 σ2 ⟨v2, rfl, h⟩
  exact ev_iret rfl dX3_akinOf_10 h
theorem EX3_tell {N : Nat} {σ : Sg} {Q : Option Value → Sg → Prop} {x1 : Int32} {x2 : Int32} (h : EvM (N + 4) mX3_gatherEndings [.ref 22] σ (fun r9 σ1 => r9 = none ∧ (EvM (N + 4) mX3_measureAkin [.ref 22] σ1 (fun r9 σ2 => r9 = none ∧ (EvM (N + 4) mX3_measureApart [.ref 22] σ2 (fun r9 σ3 => r9 = none ∧ (EvM (N + 4) mX3_seatBound [.ref 22] σ3 (fun r9 σ4 => r9 = none ∧ (EvM (N + 4) mX3_seat [.ref 22, .int x1, .int 0, .int 0] (u1 σ4 22 10 1073741824) (fun r9 σ5 => r9 = none ∧ ((x2 = 0 → Q (some (.int (σ5.1 22 10))) σ5) ∧ (¬ x2 = 0 → (x2 = 1 → Q (some (.int (σ5.1 22 9))) σ5) ∧ (¬ x2 = 1 → (x2 < 10 → (x2 < 30 → Q (some (.int (-1))) σ5) ∧ (¬ x2 < 30 → ((30 + (σ5.1 22 9)) ≤ x2 → Q (some (.int (-1))) σ5) ∧ (¬ (30 + (σ5.1 22 9)) ≤ x2 → vp_in (x2 - 30) 8 ∧ (Q (some (.int (σ5.1 101 (x2 - 30).toNatClampNeg))) σ5)))) ∧ (¬ x2 < 10 → ((10 + (σ5.1 22 9)) ≤ x2 → (x2 < 30 → Q (some (.int (-1))) σ5) ∧ (¬ x2 < 30 → ((30 + (σ5.1 22 9)) ≤ x2 → Q (some (.int (-1))) σ5) ∧ (¬ (30 + (σ5.1 22 9)) ≤ x2 → vp_in (x2 - 30) 8 ∧ (Q (some (.int (σ5.1 101 (x2 - 30).toNatClampNeg))) σ5)))) ∧ (¬ (10 + (σ5.1 22 9)) ≤ x2 → vp_in (x2 - 10) 8 ∧ (Q (some (.int (σ5.1 99 (x2 - 10).toNatClampNeg))) σ5)))))))))))))))) : EvM (N + 5) mX3_tell [.ref 22, .int x1, .int x2] σ Q := by
  refine ev_entry rfl (Nat.le_of_ble_eq_true rfl) (lv := [(0, .ref 22), (1, .int x1), (2, .int x2)]) rfl ?_
  refine ev_aload_n 0 dX3_tell_0 rfl ?_
  refine ev_callV (M' := mX3_gatherEndings) [] vX3_gatherEndings G3 lay_22 dX3_tell_1 w_683 rfl rfl (Nat.le_of_ble_eq_true rfl) h ?_
  rintro r9 σ1 ⟨rfl, h⟩
  refine ev_aload_n 0 dX3_tell_4 rfl ?_
  refine ev_callV (M' := mX3_measureAkin) [] vX3_measureAkin G3 lay_22 dX3_tell_5 w_723 rfl rfl (Nat.le_of_ble_eq_true rfl) h ?_
  rintro r9 σ2 ⟨rfl, h⟩
  refine ev_aload_n 0 dX3_tell_8 rfl ?_
  refine ev_callV (M' := mX3_measureApart) [] vX3_measureApart G3 lay_22 dX3_tell_9 w_727 rfl rfl (Nat.le_of_ble_eq_true rfl) h ?_
  rintro r9 σ3 ⟨rfl, h⟩
  refine ev_aload_n 0 dX3_tell_12 rfl ?_
  refine ev_callV (M' := mX3_seatBound) [] vX3_seatBound G3 lay_22 dX3_tell_13 w_737 rfl rfl (Nat.le_of_ble_eq_true rfl) h ?_
  rintro r9 σ4 ⟨rfl, h⟩
  refine ev_aload_n 0 dX3_tell_16 rfl ?_
  refine ev_ldc 1073741824 dX3_tell_17 w_745 ?_
  refine ev_put G3 lay_22 (k := 10) rfl (Nat.le_of_ble_eq_true rfl) rfl (by decide +kernel) dX3_tell_19 w_227 ?_
  refine ev_aload_n 0 dX3_tell_22 rfl ?_
  refine ev_iload_n 1 dX3_tell_23 rfl ?_
  refine ev_iconst 0 dX3_tell_24 (by decide) ?_
  refine ev_iconst 0 dX3_tell_25 (by decide) ?_
  refine ev_callS (M' := mX3_seat) [.ref 22, .int x1, .int 0, .int 0] vX3_seat dX3_tell_26 w_746 rfl rfl (Nat.le_of_ble_eq_true rfl) h ?_
  rintro r9 σ5 ⟨rfl, h⟩
  refine ev_iload_n 2 dX3_tell_29 rfl ?_
  refine ev_if_ne 38 dX3_tell_30 (by decide) (fun c9 => ?_) (fun c9 => ?_)
  · replace h := h.2 c9
    refine ev_iload_n 2 dX3_tell_38 rfl ?_
    refine ev_iconst 1 dX3_tell_39 (by decide) ?_
    refine ev_icmp_ne 48 dX3_tell_40 (by decide) (fun c9 => ?_) (fun c9 => ?_)
    · replace h := h.2 c9
      refine ev_iload_n 2 dX3_tell_48 rfl ?_
      refine ev_bipush 10 dX3_tell_49 (by decide) ?_
      refine ev_icmp_lt 75 dX3_tell_51 (by decide) (fun c9 => ?_) (fun c9 => ?_)
      · replace h := h.1 c9
        refine ev_iload_n 2 dX3_tell_75 rfl ?_
        refine ev_bipush 30 dX3_tell_76 (by decide) ?_
        refine ev_icmp_lt 102 dX3_tell_78 (by decide) (fun c9 => ?_) (fun c9 => ?_)
        · replace h := h.1 c9
          refine ev_iconst (-1) dX3_tell_102 (by decide) ?_
          exact ev_iret rfl dX3_tell_103 h
        · replace h := h.2 c9
          refine ev_iload_n 2 dX3_tell_81 rfl ?_
          refine ev_bipush 30 dX3_tell_82 (by decide) ?_
          refine ev_aload_n 0 dX3_tell_84 rfl ?_
          refine ev_get G3 lay_22 (k := 9) rfl (Nat.le_of_ble_eq_true rfl) dX3_tell_85 w_226 ?_
          refine ev_iadd dX3_tell_88 ?_
          refine ev_icmp_ge 102 dX3_tell_89 (by decide) (fun c9 => ?_) (fun c9 => ?_)
          · replace h := h.1 c9
            refine ev_iconst (-1) dX3_tell_102 (by decide) ?_
            exact ev_iret rfl dX3_tell_103 h
          · replace h := h.2 c9
            refine ev_aload_n 0 dX3_tell_92 rfl ?_
            refine ev_getR (r := 101) G3 lay_22 (k := 8) rfl (Nat.le_of_ble_eq_true rfl) dX3_tell_93 w_225 ?_
            refine ev_iload_n 2 dX3_tell_96 rfl ?_
            refine ev_bipush 30 dX3_tell_97 (by decide) ?_
            refine ev_isub dX3_tell_99 ?_
            have hb100 := h.1
            replace h := h.2
            refine ev_iald lay_101 (Nat.le_of_ble_eq_true rfl) hb100 dX3_tell_100 ?_
            exact ev_iret rfl dX3_tell_101 h
      · replace h := h.2 c9
        refine ev_iload_n 2 dX3_tell_54 rfl ?_
        refine ev_bipush 10 dX3_tell_55 (by decide) ?_
        refine ev_aload_n 0 dX3_tell_57 rfl ?_
        refine ev_get G3 lay_22 (k := 9) rfl (Nat.le_of_ble_eq_true rfl) dX3_tell_58 w_226 ?_
        refine ev_iadd dX3_tell_61 ?_
        refine ev_icmp_ge 75 dX3_tell_62 (by decide) (fun c9 => ?_) (fun c9 => ?_)
        · replace h := h.1 c9
          refine ev_iload_n 2 dX3_tell_75 rfl ?_
          refine ev_bipush 30 dX3_tell_76 (by decide) ?_
          refine ev_icmp_lt 102 dX3_tell_78 (by decide) (fun c9 => ?_) (fun c9 => ?_)
          · replace h := h.1 c9
            refine ev_iconst (-1) dX3_tell_102 (by decide) ?_
            exact ev_iret rfl dX3_tell_103 h
          · replace h := h.2 c9
            refine ev_iload_n 2 dX3_tell_81 rfl ?_
            refine ev_bipush 30 dX3_tell_82 (by decide) ?_
            refine ev_aload_n 0 dX3_tell_84 rfl ?_
            refine ev_get G3 lay_22 (k := 9) rfl (Nat.le_of_ble_eq_true rfl) dX3_tell_85 w_226 ?_
            refine ev_iadd dX3_tell_88 ?_
            refine ev_icmp_ge 102 dX3_tell_89 (by decide) (fun c9 => ?_) (fun c9 => ?_)
            · replace h := h.1 c9
              refine ev_iconst (-1) dX3_tell_102 (by decide) ?_
              exact ev_iret rfl dX3_tell_103 h
            · replace h := h.2 c9
              refine ev_aload_n 0 dX3_tell_92 rfl ?_
              refine ev_getR (r := 101) G3 lay_22 (k := 8) rfl (Nat.le_of_ble_eq_true rfl) dX3_tell_93 w_225 ?_
              refine ev_iload_n 2 dX3_tell_96 rfl ?_
              refine ev_bipush 30 dX3_tell_97 (by decide) ?_
              refine ev_isub dX3_tell_99 ?_
              have hb100 := h.1
              replace h := h.2
              refine ev_iald lay_101 (Nat.le_of_ble_eq_true rfl) hb100 dX3_tell_100 ?_
              exact ev_iret rfl dX3_tell_101 h
        · replace h := h.2 c9
          refine ev_aload_n 0 dX3_tell_65 rfl ?_
          refine ev_getR (r := 99) G3 lay_22 (k := 6) rfl (Nat.le_of_ble_eq_true rfl) dX3_tell_66 w_223 ?_
          refine ev_iload_n 2 dX3_tell_69 rfl ?_
          refine ev_bipush 10 dX3_tell_70 (by decide) ?_
          refine ev_isub dX3_tell_72 ?_
          have hb73 := h.1
          replace h := h.2
          refine ev_iald lay_99 (Nat.le_of_ble_eq_true rfl) hb73 dX3_tell_73 ?_
          exact ev_iret rfl dX3_tell_74 h
    · replace h := h.1 c9
      refine ev_aload_n 0 dX3_tell_43 rfl ?_
      refine ev_get G3 lay_22 (k := 9) rfl (Nat.le_of_ble_eq_true rfl) dX3_tell_44 w_226 ?_
      exact ev_iret rfl dX3_tell_47 h
  · replace h := h.1 c9
    refine ev_aload_n 0 dX3_tell_33 rfl ?_
    refine ev_get G3 lay_22 (k := 10) rfl (Nat.le_of_ble_eq_true rfl) dX3_tell_34 w_227 ?_
    exact ev_iret rfl dX3_tell_37 h
abbrev KX3_gatherEndings_2 (N : Nat) (σ : Sg) (Q : Option Value → Sg → Prop) (x1 : Int32) : Prop := Ev (N + 4) mX3_gatherEndings 2 [(0, .ref 22), (1, .int x1)] [] σ Q
abbrev KX3_gatherEndings_23 (N : Nat) (σ : Sg) (Q : Option Value → Sg → Prop) (x1 : Int32) : Prop := Ev (N + 4) mX3_gatherEndings 23 [(0, .ref 22), (1, .int x1)] [] σ Q
theorem EX3_gatherEndings {N : Nat} {σ : Sg} {Q : Option Value → Sg → Prop} (h : KX3_gatherEndings_2 N σ Q 0) : EvM (N + 4) mX3_gatherEndings [.ref 22] σ Q := by
  refine ev_entry rfl (Nat.le_of_ble_eq_true rfl) (lv := [(0, .ref 22)]) rfl ?_
  refine ev_iconst 0 dX3_gatherEndings_0 (by decide) ?_
  refine ev_istore_n (lv' := [(1, .int 0), (0, .ref 22)]) dX3_gatherEndings_1 (Nat.le_of_ble_eq_true rfl) rfl ?_
  refine ev_sub [1, 0] rfl ?_
  exact h
theorem BX3_gatherEndings_2 {N : Nat} {σ : Sg} {Q : Option Value → Sg → Prop} {x1 : Int32} (h : (96 ≤ x1 → KX3_gatherEndings_23 N σ Q 0) ∧ (¬ 96 ≤ x1 → vp_in x1 96 ∧ (KX3_gatherEndings_2 N (u1 σ 98 (x1).toNatClampNeg 0) Q (x1 + 1)))) : KX3_gatherEndings_2 N σ Q x1 := by
  refine ev_iload_n 1 dX3_gatherEndings_2 rfl ?_
  refine ev_bipush 96 dX3_gatherEndings_3 (by decide) ?_
  refine ev_icmp_ge 21 dX3_gatherEndings_5 (by decide) (fun c9 => ?_) (fun c9 => ?_)
  · replace h := h.1 c9
    refine ev_iconst 0 dX3_gatherEndings_21 (by decide) ?_
    refine ev_istore_n (lv' := [(1, .int 0), (0, .ref 22)]) dX3_gatherEndings_22 (Nat.le_of_ble_eq_true rfl) rfl ?_
    refine ev_sub [1, 0] rfl ?_
    exact h
  · replace h := h.2 c9
    refine ev_aload_n 0 dX3_gatherEndings_8 rfl ?_
    refine ev_getR (r := 98) G3 lay_22 (k := 5) rfl (Nat.le_of_ble_eq_true rfl) dX3_gatherEndings_9 w_222 ?_
    refine ev_iload_n 1 dX3_gatherEndings_12 rfl ?_
    refine ev_iconst 0 dX3_gatherEndings_13 (by decide) ?_
    have hb14 := h.1
    replace h := h.2
    refine ev_iast lay_98 (Nat.le_of_ble_eq_true rfl) hb14 dX3_gatherEndings_14 ?_
    refine ev_iinc (lv' := [(1, .int (x1 + 1)), (0, .ref 22)]) (x1 + 1) 1 dX3_gatherEndings_15 rfl rfl (Nat.le_of_ble_eq_true rfl) rfl ?_
    refine ev_goto 2 dX3_gatherEndings_18 (by decide) ?_
    refine ev_sub [1, 0] rfl ?_
    exact h
theorem BX3_gatherEndings_23 {N : Nat} {σ : Sg} {Q : Option Value → Sg → Prop} {x1 : Int32} (h : ((σ.1 5 9) ≤ x1 → Q none σ) ∧ (¬ (σ.1 5 9) ≤ x1 → EvM (N + 3) mX3_firstOfStem [.ref 22, .int x1] σ (fun r9 σ1 => ∃ v1, r9 = some (.int v1) ∧ (EvM (N + 3) mX7_lastSignOfWord [.ref 5, .int x1] σ1 (fun r9 σ2 => ∃ v2, r9 = some (.int v2) ∧ ((v1 < 0 → KX3_gatherEndings_23 N σ2 Q (x1 + 1)) ∧ (¬ v1 < 0 → (v2 < 0 → KX3_gatherEndings_23 N σ2 Q (x1 + 1)) ∧ (¬ v2 < 0 → (24 ≤ v2 → KX3_gatherEndings_23 N σ2 Q (x1 + 1)) ∧ (¬ 24 ≤ v2 → vp_in v1 96 ∧ (vp_in v1 96 ∧ (KX3_gatherEndings_23 N (u1 σ2 98 (v1).toNatClampNeg ((σ2.1 98 (v1).toNatClampNeg) ||| (1 <<< (v2 &&& 31)))) Q (x1 + 1)))))))))))) : KX3_gatherEndings_23 N σ Q x1 := by
  refine ev_iload_n 1 dX3_gatherEndings_23 rfl ?_
  refine ev_aload_n 0 dX3_gatherEndings_24 rfl ?_
  refine ev_getR (r := 5) G3 lay_22 (k := 1) rfl (Nat.le_of_ble_eq_true rfl) dX3_gatherEndings_25 w_218 ?_
  refine ev_callV (M' := mX7_words) [] vX7_words G7 lay_5 dX3_gatherEndings_28 w_687 rfl rfl (Nat.le_of_ble_eq_true rfl) (EX7_words (Q := fun r9 s9 => σ = s9 ∧ r9 = some (.int (σ.1 5 9))) ⟨rfl, rfl⟩) ?_
  rintro r9 s9 ⟨rfl, rfl⟩
  refine ev_icmp_ge 81 dX3_gatherEndings_31 (by decide) (fun c9 => ?_) (fun c9 => ?_)
  · replace h := h.1 c9
    exact ev_vret rfl dX3_gatherEndings_81 h
  · replace h := h.2 c9
    refine ev_aload_n 0 dX3_gatherEndings_34 rfl ?_
    refine ev_iload_n 1 dX3_gatherEndings_35 rfl ?_
    refine ev_callV (M' := mX3_firstOfStem) [.int x1] vX3_firstOfStem G3 lay_22 dX3_gatherEndings_36 w_691 rfl rfl (Nat.le_of_ble_eq_true rfl) h ?_
    rintro r9 σ1 ⟨v1, rfl, h⟩
    refine ev_istore_n (lv' := [(2, .int v1), (0, .ref 22), (1, .int x1)]) dX3_gatherEndings_39 (Nat.le_of_ble_eq_true rfl) rfl ?_
    refine ev_aload_n 1 dX3_gatherEndings_40 rfl ?_
    refine ev_getR (r := 5) G3 lay_22 (k := 1) rfl (Nat.le_of_ble_eq_true rfl) dX3_gatherEndings_41 w_218 ?_
    refine ev_iload_n 2 dX3_gatherEndings_44 rfl ?_
    refine ev_callV (M' := mX7_lastSignOfWord) [.int x1] vX7_lastSignOfWord G7 lay_5 dX3_gatherEndings_45 w_701 rfl rfl (Nat.le_of_ble_eq_true rfl) h ?_
    rintro r9 σ2 ⟨v2, rfl, h⟩
    refine ev_istore_n (lv' := [(3, .int v2), (2, .int v1), (0, .ref 22), (1, .int x1)]) dX3_gatherEndings_48 (Nat.le_of_ble_eq_true rfl) rfl ?_
    refine ev_iload_n 1 dX3_gatherEndings_49 rfl ?_
    refine ev_if_lt 75 dX3_gatherEndings_50 (by decide) (fun c9 => ?_) (fun c9 => ?_)
    · replace h := h.1 c9
      refine ev_iinc (lv' := [(1, .int (x1 + 1)), (3, .int v2), (2, .int v1), (0, .ref 22)]) (x1 + 1) 3 dX3_gatherEndings_75 rfl rfl (Nat.le_of_ble_eq_true rfl) rfl ?_
      refine ev_goto 23 dX3_gatherEndings_78 (by decide) ?_
      refine ev_sub [3, 0] rfl ?_
      exact h
    · replace h := h.2 c9
      refine ev_iload_n 0 dX3_gatherEndings_53 rfl ?_
      refine ev_if_lt 75 dX3_gatherEndings_54 (by decide) (fun c9 => ?_) (fun c9 => ?_)
      · replace h := h.1 c9
        refine ev_iinc (lv' := [(1, .int (x1 + 1)), (3, .int v2), (2, .int v1), (0, .ref 22)]) (x1 + 1) 3 dX3_gatherEndings_75 rfl rfl (Nat.le_of_ble_eq_true rfl) rfl ?_
        refine ev_goto 23 dX3_gatherEndings_78 (by decide) ?_
        refine ev_sub [3, 0] rfl ?_
        exact h
      · replace h := h.2 c9
        refine ev_iload_n 0 dX3_gatherEndings_57 rfl ?_
        refine ev_bipush 24 dX3_gatherEndings_58 (by decide) ?_
        refine ev_icmp_ge 75 dX3_gatherEndings_60 (by decide) (fun c9 => ?_) (fun c9 => ?_)
        · replace h := h.1 c9
          refine ev_iinc (lv' := [(1, .int (x1 + 1)), (3, .int v2), (2, .int v1), (0, .ref 22)]) (x1 + 1) 3 dX3_gatherEndings_75 rfl rfl (Nat.le_of_ble_eq_true rfl) rfl ?_
          refine ev_goto 23 dX3_gatherEndings_78 (by decide) ?_
          refine ev_sub [3, 0] rfl ?_
          exact h
        · replace h := h.2 c9
          refine ev_aload_n 2 dX3_gatherEndings_63 rfl ?_
          refine ev_getR (r := 98) G3 lay_22 (k := 5) rfl (Nat.le_of_ble_eq_true rfl) dX3_gatherEndings_64 w_222 ?_
          refine ev_iload_n 1 dX3_gatherEndings_67 rfl ?_
          refine ev_dup2 dX3_gatherEndings_68 rfl rfl ?_
          have hb69 := h.1
          replace h := h.2
          refine ev_iald lay_98 (Nat.le_of_ble_eq_true rfl) hb69 dX3_gatherEndings_69 ?_
          refine ev_iconst 1 dX3_gatherEndings_70 (by decide) ?_
          refine ev_iload_n 0 dX3_gatherEndings_71 rfl ?_
          refine ev_ishl dX3_gatherEndings_72 ?_
          refine ev_ior dX3_gatherEndings_73 ?_
          have hb74 := h.1
          replace h := h.2
          refine ev_iast lay_98 (Nat.le_of_ble_eq_true rfl) hb74 dX3_gatherEndings_74 ?_
          refine ev_iinc (lv' := [(1, .int (x1 + 1)), (3, .int v2), (2, .int v1), (0, .ref 22)]) (x1 + 1) 3 dX3_gatherEndings_75 rfl rfl (Nat.le_of_ble_eq_true rfl) rfl ?_
          refine ev_goto 23 dX3_gatherEndings_78 (by decide) ?_
          refine ev_sub [3, 0] rfl ?_
          exact h
abbrev KX3_firstOfStem_28 (N : Nat) (σ : Sg) (Q : Option Value → Sg → Prop) (x1 : Int32) (x2 : Int32) : Prop := Ev (N + 3) mX3_firstOfStem 28 [(0, .ref 22), (1, .int x1), (2, .int x2)] [] σ Q
theorem EX3_firstOfStem {N : Nat} {σ : Sg} {Q : Option Value → Sg → Prop} {x1 : Int32} (h : EvM (N + 2) mX7_isWhole [.ref 5, .int x1] σ (fun r9 σ1 => ∃ v1, r9 = some (.int v1) ∧ ((v1 = 0 → Q (some (.int (-4))) σ1) ∧ (¬ v1 = 0 → EvM (N + 2) mX7_lengthOfWord [.ref 5, .int x1] σ1 (fun r9 σ2 => ∃ v2, r9 = some (.int v2) ∧ ((2 ≤ v2 → KX3_firstOfStem_28 N σ2 Q x1 0) ∧ (¬ 2 ≤ v2 → Q (some (.int (-4))) σ2))))))) : EvM (N + 3) mX3_firstOfStem [.ref 22, .int x1] σ Q := by
  refine ev_entry rfl (Nat.le_of_ble_eq_true rfl) (lv := [(0, .ref 22), (1, .int x1)]) rfl ?_
  refine ev_aload_n 0 dX3_firstOfStem_0 rfl ?_
  refine ev_getR (r := 5) G3 lay_22 (k := 1) rfl (Nat.le_of_ble_eq_true rfl) dX3_firstOfStem_1 w_218 ?_
  refine ev_iload_n 1 dX3_firstOfStem_4 rfl ?_
  refine ev_callV (M' := mX7_isWhole) [.int x1] vX7_isWhole G7 lay_5 dX3_firstOfStem_5 w_695 rfl rfl (Nat.le_of_ble_eq_true rfl) h ?_
  rintro r9 σ1 ⟨v1, rfl, h⟩
  refine ev_if_eq 23 dX3_firstOfStem_8 (by decide) (fun c9 => ?_) (fun c9 => ?_)
  · replace h := h.1 c9
    refine ev_bipush (-4) dX3_firstOfStem_23 (by decide) ?_
    exact ev_iret rfl dX3_firstOfStem_25 h
  · replace h := h.2 c9
    refine ev_aload_n 0 dX3_firstOfStem_11 rfl ?_
    refine ev_getR (r := 5) G3 lay_22 (k := 1) rfl (Nat.le_of_ble_eq_true rfl) dX3_firstOfStem_12 w_218 ?_
    refine ev_iload_n 1 dX3_firstOfStem_15 rfl ?_
    refine ev_callV (M' := mX7_lengthOfWord) [.int x1] vX7_lengthOfWord G7 lay_5 dX3_firstOfStem_16 w_696 rfl rfl (Nat.le_of_ble_eq_true rfl) h ?_
    rintro r9 σ2 ⟨v2, rfl, h⟩
    refine ev_iconst 2 dX3_firstOfStem_19 (by decide) ?_
    refine ev_icmp_ge 26 dX3_firstOfStem_20 (by decide) (fun c9 => ?_) (fun c9 => ?_)
    · replace h := h.1 c9
      refine ev_iconst 0 dX3_firstOfStem_26 (by decide) ?_
      refine ev_istore_n (lv' := [(2, .int 0), (0, .ref 22), (1, .int x1)]) dX3_firstOfStem_27 (Nat.le_of_ble_eq_true rfl) rfl ?_
      refine ev_sub [1, 2, 0] rfl ?_
      exact h
    · replace h := h.2 c9
      refine ev_bipush (-4) dX3_firstOfStem_23 (by decide) ?_
      exact ev_iret rfl dX3_firstOfStem_25 h
theorem BX3_firstOfStem_28 {N : Nat} {σ : Sg} {Q : Option Value → Sg → Prop} {x1 : Int32} {x2 : Int32} (h : (x1 ≤ x2 → Q (some (.int x1)) σ) ∧ (¬ x1 ≤ x2 → EvM (N + 2) mX7_isWhole [.ref 5, .int x2] σ (fun r9 σ3 => ∃ v3, r9 = some (.int v3) ∧ ((v3 = 0 → KX3_firstOfStem_28 N σ3 Q x1 (x2 + 1)) ∧ (¬ v3 = 0 → EvM (N + 2) mX7_haveOneStem [.ref 5, .int x2, .int x1] σ3 (fun r9 σ4 => ∃ v4, r9 = some (.int v4) ∧ ((v4 = 0 → KX3_firstOfStem_28 N σ4 Q x1 (x2 + 1)) ∧ (¬ v4 = 0 → Q (some (.int x2)) σ4)))))))) : KX3_firstOfStem_28 N σ Q x1 x2 := by
  refine ev_iload_n 2 dX3_firstOfStem_28 rfl ?_
  refine ev_iload_n 1 dX3_firstOfStem_29 rfl ?_
  refine ev_icmp_ge 64 dX3_firstOfStem_30 (by decide) (fun c9 => ?_) (fun c9 => ?_)
  · replace h := h.1 c9
    refine ev_iload_n 1 dX3_firstOfStem_64 rfl ?_
    exact ev_iret rfl dX3_firstOfStem_65 h
  · replace h := h.2 c9
    refine ev_aload_n 0 dX3_firstOfStem_33 rfl ?_
    refine ev_getR (r := 5) G3 lay_22 (k := 1) rfl (Nat.le_of_ble_eq_true rfl) dX3_firstOfStem_34 w_218 ?_
    refine ev_iload_n 2 dX3_firstOfStem_37 rfl ?_
    refine ev_callV (M' := mX7_isWhole) [.int x2] vX7_isWhole G7 lay_5 dX3_firstOfStem_38 w_695 rfl rfl (Nat.le_of_ble_eq_true rfl) h ?_
    rintro r9 σ3 ⟨v3, rfl, h⟩
    refine ev_if_eq 58 dX3_firstOfStem_41 (by decide) (fun c9 => ?_) (fun c9 => ?_)
    · replace h := h.1 c9
      refine ev_iinc (lv' := [(2, .int (x2 + 1)), (0, .ref 22), (1, .int x1)]) (x2 + 1) 2 dX3_firstOfStem_58 rfl rfl (Nat.le_of_ble_eq_true rfl) rfl ?_
      refine ev_goto 28 dX3_firstOfStem_61 (by decide) ?_
      refine ev_sub [1, 2, 0] rfl ?_
      exact h
    · replace h := h.2 c9
      refine ev_aload_n 0 dX3_firstOfStem_44 rfl ?_
      refine ev_getR (r := 5) G3 lay_22 (k := 1) rfl (Nat.le_of_ble_eq_true rfl) dX3_firstOfStem_45 w_218 ?_
      refine ev_iload_n 2 dX3_firstOfStem_48 rfl ?_
      refine ev_iload_n 1 dX3_firstOfStem_49 rfl ?_
      refine ev_callV (M' := mX7_haveOneStem) [.int x2, .int x1] vX7_haveOneStem G7 lay_5 dX3_firstOfStem_50 w_697 rfl rfl (Nat.le_of_ble_eq_true rfl) h ?_
      rintro r9 σ4 ⟨v4, rfl, h⟩
      refine ev_if_eq 58 dX3_firstOfStem_53 (by decide) (fun c9 => ?_) (fun c9 => ?_)
      · replace h := h.1 c9
        refine ev_iinc (lv' := [(2, .int (x2 + 1)), (0, .ref 22), (1, .int x1)]) (x2 + 1) 2 dX3_firstOfStem_58 rfl rfl (Nat.le_of_ble_eq_true rfl) rfl ?_
        refine ev_goto 28 dX3_firstOfStem_61 (by decide) ?_
        refine ev_sub [1, 2, 0] rfl ?_
        exact h
      · replace h := h.2 c9
        refine ev_iload_n 2 dX3_firstOfStem_56 rfl ?_
        exact ev_iret rfl dX3_firstOfStem_57 h
abbrev KX3_stemsOfBoth_5 (N : Nat) (σ : Sg) (Q : Option Value → Sg → Prop) (x1 : Int32) (x2 : Int32) (x3 : Int32) (x4 : Int32) : Prop := Ev N mX3_stemsOfBoth 5 [(0, .ref 22), (1, .int x1), (2, .int x2), (3, .int x3), (4, .int x4)] [] σ Q
theorem EX3_stemsOfBoth {N : Nat} {σ : Sg} {Q : Option Value → Sg → Prop} {x1 : Int32} {x2 : Int32} (h : KX3_stemsOfBoth_5 N σ Q x1 x2 0 0) : EvM N mX3_stemsOfBoth [.ref 22, .int x1, .int x2] σ Q := by
  refine ev_entry rfl (Nat.le_of_ble_eq_true rfl) (lv := [(0, .ref 22), (1, .int x1), (2, .int x2)]) rfl ?_
  refine ev_iconst 0 dX3_stemsOfBoth_0 (by decide) ?_
  refine ev_istore_n (lv' := [(3, .int 0), (0, .ref 22), (1, .int x1), (2, .int x2)]) dX3_stemsOfBoth_1 (Nat.le_of_ble_eq_true rfl) rfl ?_
  refine ev_iconst 0 dX3_stemsOfBoth_2 (by decide) ?_
  refine ev_istore (lv' := [(4, .int 0), (3, .int 0), (0, .ref 22), (1, .int x1), (2, .int x2)]) dX3_stemsOfBoth_3 (Nat.le_of_ble_eq_true rfl) rfl ?_
  refine ev_sub [2, 3, 4, 1, 0] rfl ?_
  exact h
theorem BX3_stemsOfBoth_5 {N : Nat} {σ : Sg} {Q : Option Value → Sg → Prop} {x1 : Int32} {x2 : Int32} {x3 : Int32} {x4 : Int32} (h : (96 ≤ x4 → Q (some (.int x3)) σ) ∧ (¬ 96 ≤ x4 → vp_in x4 96 ∧ (vp_in x4 96 ∧ ((((((σ.1 98 (x4).toNatClampNeg) >>> (x1 &&& 31)) &&& ((σ.1 98 (x4).toNatClampNeg) >>> (x2 &&& 31))) &&& 1) = 1 → KX3_stemsOfBoth_5 N σ Q x1 x2 (x3 + 1) (x4 + 1)) ∧ (¬ ((((σ.1 98 (x4).toNatClampNeg) >>> (x1 &&& 31)) &&& ((σ.1 98 (x4).toNatClampNeg) >>> (x2 &&& 31))) &&& 1) = 1 → KX3_stemsOfBoth_5 N σ Q x1 x2 x3 (x4 + 1)))))) : KX3_stemsOfBoth_5 N σ Q x1 x2 x3 x4 := by
  refine ev_iload 4 dX3_stemsOfBoth_5 rfl ?_
  refine ev_bipush 96 dX3_stemsOfBoth_7 (by decide) ?_
  refine ev_icmp_ge 46 dX3_stemsOfBoth_9 (by decide) (fun c9 => ?_) (fun c9 => ?_)
  · replace h := h.1 c9
    refine ev_iload_n 3 dX3_stemsOfBoth_46 rfl ?_
    exact ev_iret rfl dX3_stemsOfBoth_47 h
  · replace h := h.2 c9
    refine ev_aload_n 0 dX3_stemsOfBoth_12 rfl ?_
    refine ev_getR (r := 98) G3 lay_22 (k := 5) rfl (Nat.le_of_ble_eq_true rfl) dX3_stemsOfBoth_13 w_222 ?_
    refine ev_iload 4 dX3_stemsOfBoth_16 rfl ?_
    have hb18 := h.1
    replace h := h.2
    refine ev_iald lay_98 (Nat.le_of_ble_eq_true rfl) hb18 dX3_stemsOfBoth_18 ?_
    refine ev_iload_n 1 dX3_stemsOfBoth_19 rfl ?_
    refine ev_ishr dX3_stemsOfBoth_20 ?_
    refine ev_aload_n 0 dX3_stemsOfBoth_21 rfl ?_
    refine ev_getR (r := 98) G3 lay_22 (k := 5) rfl (Nat.le_of_ble_eq_true rfl) dX3_stemsOfBoth_22 w_222 ?_
    refine ev_iload 4 dX3_stemsOfBoth_25 rfl ?_
    have hb27 := h.1
    replace h := h.2
    refine ev_iald lay_98 (Nat.le_of_ble_eq_true rfl) hb27 dX3_stemsOfBoth_27 ?_
    refine ev_iload_n 2 dX3_stemsOfBoth_28 rfl ?_
    refine ev_ishr dX3_stemsOfBoth_29 ?_
    refine ev_iand dX3_stemsOfBoth_30 ?_
    refine ev_iconst 1 dX3_stemsOfBoth_31 (by decide) ?_
    refine ev_iand dX3_stemsOfBoth_32 ?_
    refine ev_iconst 1 dX3_stemsOfBoth_33 (by decide) ?_
    refine ev_icmp_ne 40 dX3_stemsOfBoth_34 (by decide) (fun c9 => ?_) (fun c9 => ?_)
    · replace h := h.2 c9
      refine ev_iinc (lv' := [(4, .int (x4 + 1)), (0, .ref 22), (1, .int x1), (2, .int x2), (3, .int x3)]) (x4 + 1) 4 dX3_stemsOfBoth_40 rfl rfl (Nat.le_of_ble_eq_true rfl) rfl ?_
      refine ev_goto 5 dX3_stemsOfBoth_43 (by decide) ?_
      refine ev_sub [1, 2, 3, 4, 0] rfl ?_
      exact h
    · replace h := h.1 c9
      refine ev_iinc (lv' := [(3, .int (x3 + 1)), (0, .ref 22), (1, .int x1), (2, .int x2), (4, .int x4)]) (x3 + 1) 3 dX3_stemsOfBoth_37 rfl rfl (Nat.le_of_ble_eq_true rfl) rfl ?_
      refine ev_iinc (lv' := [(4, .int (x4 + 1)), (3, .int (x3 + 1)), (0, .ref 22), (1, .int x1), (2, .int x2)]) (x4 + 1) 4 dX3_stemsOfBoth_40 rfl rfl (Nat.le_of_ble_eq_true rfl) rfl ?_
      refine ev_goto 5 dX3_stemsOfBoth_43 (by decide) ?_
      refine ev_sub [2, 3, 4, 1, 0] rfl ?_
      exact h
abbrev KX3_measureAkin_2 (N : Nat) (σ : Sg) (Q : Option Value → Sg → Prop) (x1 : Int32) : Prop := Ev (N + 1) mX3_measureAkin 2 [(0, .ref 22), (1, .int x1)] [] σ Q
abbrev KX3_measureAkin_10 (N : Nat) (σ : Sg) (Q : Option Value → Sg → Prop) (x1 : Int32) (x2 : Int32) : Prop := Ev (N + 1) mX3_measureAkin 10 [(0, .ref 22), (1, .int x1), (2, .int x2)] [] σ Q
theorem EX3_measureAkin {N : Nat} {σ : Sg} {Q : Option Value → Sg → Prop} (h : KX3_measureAkin_2 N σ Q 0) : EvM (N + 1) mX3_measureAkin [.ref 22] σ Q := by
  refine ev_entry rfl (Nat.le_of_ble_eq_true rfl) (lv := [(0, .ref 22)]) rfl ?_
  refine ev_iconst 0 dX3_measureAkin_0 (by decide) ?_
  refine ev_istore_n (lv' := [(1, .int 0), (0, .ref 22)]) dX3_measureAkin_1 (Nat.le_of_ble_eq_true rfl) rfl ?_
  refine ev_sub [1, 0] rfl ?_
  exact h
theorem BX3_measureAkin_2 {N : Nat} {σ : Sg} {Q : Option Value → Sg → Prop} {x1 : Int32} (h : (24 ≤ x1 → Q none σ) ∧ (¬ 24 ≤ x1 → KX3_measureAkin_10 N σ Q x1 0)) : KX3_measureAkin_2 N σ Q x1 := by
  refine ev_iload_n 1 dX3_measureAkin_2 rfl ?_
  refine ev_bipush 24 dX3_measureAkin_3 (by decide) ?_
  refine ev_icmp_ge 51 dX3_measureAkin_5 (by decide) (fun c9 => ?_) (fun c9 => ?_)
  · replace h := h.1 c9
    exact ev_vret rfl dX3_measureAkin_51 h
  · replace h := h.2 c9
    refine ev_iconst 0 dX3_measureAkin_8 (by decide) ?_
    refine ev_istore_n (lv' := [(2, .int 0), (0, .ref 22), (1, .int x1)]) dX3_measureAkin_9 (Nat.le_of_ble_eq_true rfl) rfl ?_
    refine ev_sub [1, 2, 0] rfl ?_
    exact h
theorem BX3_measureAkin_10 {N : Nat} {σ : Sg} {Q : Option Value → Sg → Prop} {x1 : Int32} {x2 : Int32} (h : (24 ≤ x2 → KX3_measureAkin_2 N σ Q (x1 + 1)) ∧ (¬ 24 ≤ x2 → vp_in x1 24 ∧ ((x1 = x2 → vp_in x2 24 ∧ (KX3_measureAkin_10 N (u1 σ (49 + (x1).toNatClampNeg) (x2).toNatClampNeg 0) Q x1 (x2 + 1))) ∧ (¬ x1 = x2 → EvM N mX3_stemsOfBoth [.ref 22, .int x1, .int x2] σ (fun r9 σ1 => ∃ v1, r9 = some (.int v1) ∧ (vp_in x2 24 ∧ (KX3_measureAkin_10 N (u1 σ1 (49 + (x1).toNatClampNeg) (x2).toNatClampNeg v1) Q x1 (x2 + 1)))))))) : KX3_measureAkin_10 N σ Q x1 x2 := by
  refine ev_iload_n 2 dX3_measureAkin_10 rfl ?_
  refine ev_bipush 24 dX3_measureAkin_11 (by decide) ?_
  refine ev_icmp_ge 45 dX3_measureAkin_13 (by decide) (fun c9 => ?_) (fun c9 => ?_)
  · replace h := h.1 c9
    refine ev_iinc (lv' := [(1, .int (x1 + 1)), (0, .ref 22), (2, .int x2)]) (x1 + 1) 1 dX3_measureAkin_45 rfl rfl (Nat.le_of_ble_eq_true rfl) rfl ?_
    refine ev_goto 2 dX3_measureAkin_48 (by decide) ?_
    refine ev_sub [1, 0] rfl ?_
    exact h
  · replace h := h.2 c9
    refine ev_aload_n 0 dX3_measureAkin_16 rfl ?_
    refine ev_getR (r := 48) G3 lay_22 (k := 3) rfl (Nat.le_of_ble_eq_true rfl) dX3_measureAkin_17 w_220 ?_
    refine ev_iload_n 1 dX3_measureAkin_20 rfl ?_
    have hb21 := h.1
    replace h := h.2
    refine ev_aald (b := 49) lay_48 (Nat.le_of_ble_eq_true rfl) hb21 dX3_measureAkin_21 ?_
    refine ev_iload_n 2 dX3_measureAkin_22 rfl ?_
    refine ev_iload_n 1 dX3_measureAkin_23 rfl ?_
    refine ev_iload_n 2 dX3_measureAkin_24 rfl ?_
    refine ev_icmp_ne 32 dX3_measureAkin_25 (by decide) (fun c9 => ?_) (fun c9 => ?_)
    · replace h := h.2 c9
      refine ev_aload_n 0 dX3_measureAkin_32 rfl ?_
      refine ev_iload_n 1 dX3_measureAkin_33 rfl ?_
      refine ev_iload_n 2 dX3_measureAkin_34 rfl ?_
      refine ev_callV (M' := mX3_stemsOfBoth) [.int x1, .int x2] vX3_stemsOfBoth G3 lay_22 dX3_measureAkin_35 w_702 rfl rfl (Nat.le_of_ble_eq_true rfl) h ?_
      rintro r9 σ1 ⟨v1, rfl, h⟩
      have hb38 := h.1
      replace h := h.2
      refine ev_iast (layr_49 _ (Nat.not_le.mp fun q9 => hb21 (Or.inr q9))).1 (layr_49 _ (Nat.not_le.mp fun q9 => hb21 (Or.inr q9))).2 hb38 dX3_measureAkin_38 ?_
      refine ev_iinc (lv' := [(2, .int (x2 + 1)), (0, .ref 22), (1, .int x1)]) (x2 + 1) 2 dX3_measureAkin_39 rfl rfl (Nat.le_of_ble_eq_true rfl) rfl ?_
      refine ev_goto 10 dX3_measureAkin_42 (by decide) ?_
      refine ev_sub [1, 2, 0] rfl ?_
      exact h
    · replace h := h.1 c9
      refine ev_iconst 0 dX3_measureAkin_28 (by decide) ?_
      refine ev_goto 38 dX3_measureAkin_29 (by decide) ?_
      have hb38 := h.1
      replace h := h.2
      refine ev_iast (layr_49 _ (Nat.not_le.mp fun q9 => hb21 (Or.inr q9))).1 (layr_49 _ (Nat.not_le.mp fun q9 => hb21 (Or.inr q9))).2 hb38 dX3_measureAkin_38 ?_
      refine ev_iinc (lv' := [(2, .int (x2 + 1)), (0, .ref 22), (1, .int x1)]) (x2 + 1) 2 dX3_measureAkin_39 rfl rfl (Nat.le_of_ble_eq_true rfl) rfl ?_
      refine ev_goto 10 dX3_measureAkin_42 (by decide) ?_
      refine ev_sub [1, 2, 0] rfl ?_
      exact h
abbrev KX3_measureApart_2 (N : Nat) (σ : Sg) (Q : Option Value → Sg → Prop) (x1 : Int32) : Prop := Ev (N + 1) mX3_measureApart 2 [(0, .ref 22), (1, .int x1)] [] σ Q
abbrev KX3_measureApart_10 (N : Nat) (σ : Sg) (Q : Option Value → Sg → Prop) (x1 : Int32) (x2 : Int32) : Prop := Ev (N + 1) mX3_measureApart 10 [(0, .ref 22), (1, .int x1), (2, .int x2)] [] σ Q
abbrev KX3_measureApart_39 (N : Nat) (σ : Sg) (Q : Option Value → Sg → Prop) (x1 : Int32) : Prop := Ev (N + 1) mX3_measureApart 39 [(0, .ref 22), (1, .int x1)] [] σ Q
abbrev KX3_measureApart_52 (N : Nat) (σ : Sg) (Q : Option Value → Sg → Prop) (x1 : Int32) (x2 : Int32) : Prop := Ev (N + 1) mX3_measureApart 52 [(0, .ref 22), (1, .int x1), (2, .int x2)] [] σ Q
theorem EX3_measureApart {N : Nat} {σ : Sg} {Q : Option Value → Sg → Prop} (h : KX3_measureApart_2 N σ Q 0) : EvM (N + 1) mX3_measureApart [.ref 22] σ Q := by
  refine ev_entry rfl (Nat.le_of_ble_eq_true rfl) (lv := [(0, .ref 22)]) rfl ?_
  refine ev_iconst 0 dX3_measureApart_0 (by decide) ?_
  refine ev_istore_n (lv' := [(1, .int 0), (0, .ref 22)]) dX3_measureApart_1 (Nat.le_of_ble_eq_true rfl) rfl ?_
  refine ev_sub [1, 0] rfl ?_
  exact h
theorem BX3_measureApart_2 {N : Nat} {σ : Sg} {Q : Option Value → Sg → Prop} {x1 : Int32} (h : (24 ≤ x1 → KX3_measureApart_39 N σ Q 0) ∧ (¬ 24 ≤ x1 → KX3_measureApart_10 N σ Q x1 0)) : KX3_measureApart_2 N σ Q x1 := by
  refine ev_iload_n 1 dX3_measureApart_2 rfl ?_
  refine ev_bipush 24 dX3_measureApart_3 (by decide) ?_
  refine ev_icmp_ge 37 dX3_measureApart_5 (by decide) (fun c9 => ?_) (fun c9 => ?_)
  · replace h := h.1 c9
    refine ev_iconst 0 dX3_measureApart_37 (by decide) ?_
    refine ev_istore_n (lv' := [(1, .int 0), (0, .ref 22)]) dX3_measureApart_38 (Nat.le_of_ble_eq_true rfl) rfl ?_
    refine ev_sub [1, 0] rfl ?_
    exact h
  · replace h := h.2 c9
    refine ev_iconst 0 dX3_measureApart_8 (by decide) ?_
    refine ev_istore_n (lv' := [(2, .int 0), (0, .ref 22), (1, .int x1)]) dX3_measureApart_9 (Nat.le_of_ble_eq_true rfl) rfl ?_
    refine ev_sub [1, 2, 0] rfl ?_
    exact h
theorem BX3_measureApart_10 {N : Nat} {σ : Sg} {Q : Option Value → Sg → Prop} {x1 : Int32} {x2 : Int32} (h : (24 ≤ x2 → KX3_measureApart_2 N σ Q (x1 + 1)) ∧ (¬ 24 ≤ x2 → vp_in x1 24 ∧ (vp_in x2 24 ∧ (KX3_measureApart_10 N (u1 σ (74 + (x1).toNatClampNeg) (x2).toNatClampNeg 0) Q x1 (x2 + 1))))) : KX3_measureApart_10 N σ Q x1 x2 := by
  refine ev_iload_n 2 dX3_measureApart_10 rfl ?_
  refine ev_bipush 24 dX3_measureApart_11 (by decide) ?_
  refine ev_icmp_ge 31 dX3_measureApart_13 (by decide) (fun c9 => ?_) (fun c9 => ?_)
  · replace h := h.1 c9
    refine ev_iinc (lv' := [(1, .int (x1 + 1)), (0, .ref 22), (2, .int x2)]) (x1 + 1) 1 dX3_measureApart_31 rfl rfl (Nat.le_of_ble_eq_true rfl) rfl ?_
    refine ev_goto 2 dX3_measureApart_34 (by decide) ?_
    refine ev_sub [1, 0] rfl ?_
    exact h
  · replace h := h.2 c9
    refine ev_aload_n 0 dX3_measureApart_16 rfl ?_
    refine ev_getR (r := 73) G3 lay_22 (k := 4) rfl (Nat.le_of_ble_eq_true rfl) dX3_measureApart_17 w_221 ?_
    refine ev_iload_n 1 dX3_measureApart_20 rfl ?_
    have hb21 := h.1
    replace h := h.2
    refine ev_aald (b := 74) lay_73 (Nat.le_of_ble_eq_true rfl) hb21 dX3_measureApart_21 ?_
    refine ev_iload_n 2 dX3_measureApart_22 rfl ?_
    refine ev_iconst 0 dX3_measureApart_23 (by decide) ?_
    have hb24 := h.1
    replace h := h.2
    refine ev_iast (layr_74 _ (Nat.not_le.mp fun q9 => hb21 (Or.inr q9))).1 (layr_74 _ (Nat.not_le.mp fun q9 => hb21 (Or.inr q9))).2 hb24 dX3_measureApart_24 ?_
    refine ev_iinc (lv' := [(2, .int (x2 + 1)), (0, .ref 22), (1, .int x1)]) (x2 + 1) 2 dX3_measureApart_25 rfl rfl (Nat.le_of_ble_eq_true rfl) rfl ?_
    refine ev_goto 10 dX3_measureApart_28 (by decide) ?_
    refine ev_sub [1, 2, 0] rfl ?_
    exact h
theorem BX3_measureApart_39 {N : Nat} {σ : Sg} {Q : Option Value → Sg → Prop} {x1 : Int32} (h : ((σ.1 1 3) ≤ x1 → Q none σ) ∧ (¬ (σ.1 1 3) ≤ x1 → KX3_measureApart_52 N σ Q x1 0)) : KX3_measureApart_39 N σ Q x1 := by
  refine ev_iload_n 1 dX3_measureApart_39 rfl ?_
  refine ev_aload_n 0 dX3_measureApart_40 rfl ?_
  refine ev_getR (r := 1) G3 lay_22 (k := 0) rfl (Nat.le_of_ble_eq_true rfl) dX3_measureApart_41 w_217 ?_
  refine ev_callV (M' := mX2_size) [] vX2_size G2 lay_1 dX3_measureApart_44 w_731 rfl rfl (Nat.le_of_ble_eq_true rfl) (EX2_size (Q := fun r9 s9 => σ = s9 ∧ r9 = some (.int (σ.1 1 3))) ⟨rfl, rfl⟩) ?_
  rintro r9 s9 ⟨rfl, rfl⟩
  refine ev_icmp_ge 123 dX3_measureApart_47 (by decide) (fun c9 => ?_) (fun c9 => ?_)
  · replace h := h.1 c9
    exact ev_vret rfl dX3_measureApart_123 h
  · replace h := h.2 c9
    refine ev_iconst 0 dX3_measureApart_50 (by decide) ?_
    refine ev_istore_n (lv' := [(2, .int 0), (0, .ref 22), (1, .int x1)]) dX3_measureApart_51 (Nat.le_of_ble_eq_true rfl) rfl ?_
    refine ev_sub [1, 2, 0] rfl ?_
    exact h
theorem BX3_measureApart_52 {N : Nat} {σ : Sg} {Q : Option Value → Sg → Prop} {x1 : Int32} {x2 : Int32} (h : ((σ.1 1 3) ≤ x2 → KX3_measureApart_39 N σ Q (x1 + 1)) ∧ (¬ (σ.1 1 3) ≤ x2 → EvM N mX2_signOf [.ref 1, .int x1] σ (fun r9 σ1 => ∃ v1, r9 = some (.int v1) ∧ (EvM N mX2_signOf [.ref 1, .int x2] σ1 (fun r9 σ2 => ∃ v2, r9 = some (.int v2) ∧ (vp_in v1 24 ∧ (vp_in v1 24 ∧ (vp_in v2 24 ∧ (vp_in x1 24 ∧ (vp_in x2 24 ∧ (vp_in v2 24 ∧ (KX3_measureApart_52 N (u1 σ2 (74 + (v1).toNatClampNeg) (v2).toNatClampNeg (if (σ2.1 (74 + (v1).toNatClampNeg) (v2).toNatClampNeg) < (σ2.1 (24 + (x1).toNatClampNeg) (x2).toNatClampNeg) then (σ2.1 (24 + (x1).toNatClampNeg) (x2).toNatClampNeg) else (σ2.1 (74 + (v1).toNatClampNeg) (v2).toNatClampNeg))) Q x1 (x2 + 1))))))))))))) : KX3_measureApart_52 N σ Q x1 x2 := by
  refine ev_iload_n 2 dX3_measureApart_52 rfl ?_
  refine ev_aload_n 0 dX3_measureApart_53 rfl ?_
  refine ev_getR (r := 1) G3 lay_22 (k := 0) rfl (Nat.le_of_ble_eq_true rfl) dX3_measureApart_54 w_217 ?_
  refine ev_callV (M' := mX2_size) [] vX2_size G2 lay_1 dX3_measureApart_57 w_731 rfl rfl (Nat.le_of_ble_eq_true rfl) (EX2_size (Q := fun r9 s9 => σ = s9 ∧ r9 = some (.int (σ.1 1 3))) ⟨rfl, rfl⟩) ?_
  rintro r9 s9 ⟨rfl, rfl⟩
  refine ev_icmp_ge 117 dX3_measureApart_60 (by decide) (fun c9 => ?_) (fun c9 => ?_)
  · replace h := h.1 c9
    refine ev_iinc (lv' := [(1, .int (x1 + 1)), (0, .ref 22), (2, .int x2)]) (x1 + 1) 1 dX3_measureApart_117 rfl rfl (Nat.le_of_ble_eq_true rfl) rfl ?_
    refine ev_goto 39 dX3_measureApart_120 (by decide) ?_
    refine ev_sub [1, 0] rfl ?_
    exact h
  · replace h := h.2 c9
    refine ev_aload_n 0 dX3_measureApart_63 rfl ?_
    refine ev_getR (r := 1) G3 lay_22 (k := 0) rfl (Nat.le_of_ble_eq_true rfl) dX3_measureApart_64 w_217 ?_
    refine ev_iload_n 1 dX3_measureApart_67 rfl ?_
    refine ev_callV (M' := mX2_signOf) [.int x1] vX2_signOf G2 lay_1 dX3_measureApart_68 w_735 rfl rfl (Nat.le_of_ble_eq_true rfl) h ?_
    rintro r9 σ1 ⟨v1, rfl, h⟩
    refine ev_istore_n (lv' := [(3, .int v1), (0, .ref 22), (1, .int x1), (2, .int x2)]) dX3_measureApart_71 (Nat.le_of_ble_eq_true rfl) rfl ?_
    refine ev_aload_n 1 dX3_measureApart_72 rfl ?_
    refine ev_getR (r := 1) G3 lay_22 (k := 0) rfl (Nat.le_of_ble_eq_true rfl) dX3_measureApart_73 w_217 ?_
    refine ev_iload_n 3 dX3_measureApart_76 rfl ?_
    refine ev_callV (M' := mX2_signOf) [.int x2] vX2_signOf G2 lay_1 dX3_measureApart_77 w_735 rfl rfl (Nat.le_of_ble_eq_true rfl) h ?_
    rintro r9 σ2 ⟨v2, rfl, h⟩
    refine ev_istore (lv' := [(4, .int v2), (3, .int v1), (0, .ref 22), (1, .int x1), (2, .int x2)]) dX3_measureApart_80 (Nat.le_of_ble_eq_true rfl) rfl ?_
    refine ev_aload_n 2 dX3_measureApart_82 rfl ?_
    refine ev_getR (r := 73) G3 lay_22 (k := 4) rfl (Nat.le_of_ble_eq_true rfl) dX3_measureApart_83 w_221 ?_
    refine ev_iload_n 1 dX3_measureApart_86 rfl ?_
    have hb87 := h.1
    replace h := h.2
    refine ev_aald (b := 74) lay_73 (Nat.le_of_ble_eq_true rfl) hb87 dX3_measureApart_87 ?_
    refine ev_iload 0 dX3_measureApart_88 rfl ?_
    refine ev_aload_n 2 dX3_measureApart_90 rfl ?_
    refine ev_getR (r := 73) G3 lay_22 (k := 4) rfl (Nat.le_of_ble_eq_true rfl) dX3_measureApart_91 w_221 ?_
    refine ev_iload_n 1 dX3_measureApart_94 rfl ?_
    have hb95 := h.1
    replace h := h.2
    refine ev_aald (b := 74) lay_73 (Nat.le_of_ble_eq_true rfl) hb95 dX3_measureApart_95 ?_
    refine ev_iload 0 dX3_measureApart_96 rfl ?_
    have hb98 := h.1
    replace h := h.2
    refine ev_iald (layr_74 _ (Nat.not_le.mp fun q9 => hb95 (Or.inr q9))).1 (layr_74 _ (Nat.not_le.mp fun q9 => hb95 (Or.inr q9))).2 hb98 dX3_measureApart_98 ?_
    refine ev_aload_n 2 dX3_measureApart_99 rfl ?_
    refine ev_getR (r := 23) G3 lay_22 (k := 2) rfl (Nat.le_of_ble_eq_true rfl) dX3_measureApart_100 w_219 ?_
    refine ev_iload_n 3 dX3_measureApart_103 rfl ?_
    have hb104 := h.1
    replace h := h.2
    refine ev_aald (b := 24) lay_23 (Nat.le_of_ble_eq_true rfl) hb104 dX3_measureApart_104 ?_
    refine ev_iload_n 4 dX3_measureApart_105 rfl ?_
    have hb106 := h.1
    replace h := h.2
    refine ev_iald (layr_24 _ (Nat.not_le.mp fun q9 => hb104 (Or.inr q9))).1 (layr_24 _ (Nat.not_le.mp fun q9 => hb104 (Or.inr q9))).2 hb106 dX3_measureApart_106 ?_
    refine ev_mmax dX3_measureApart_107 w_736 ?_ (Nat.le_of_ble_eq_true rfl)
    have hb110 := h.1
    replace h := h.2
    refine ev_iast (layr_74 _ (Nat.not_le.mp fun q9 => hb87 (Or.inr q9))).1 (layr_74 _ (Nat.not_le.mp fun q9 => hb87 (Or.inr q9))).2 hb110 dX3_measureApart_110 ?_
    refine ev_iinc (lv' := [(2, .int (x2 + 1)), (4, .int v2), (3, .int v1), (0, .ref 22), (1, .int x1)]) (x2 + 1) 4 dX3_measureApart_111 rfl rfl (Nat.le_of_ble_eq_true rfl) rfl ?_
    refine ev_goto 52 dX3_measureApart_114 (by decide) ?_
    refine ev_sub [3, 4, 0] rfl ?_
    exact h
abbrev KX3_seatBound_7 (N : Nat) (σ : Sg) (Q : Option Value → Sg → Prop) (x1 : Int32) : Prop := Ev (N + 2) mX3_seatBound 7 [(0, .ref 22), (1, .int x1)] [] σ Q
theorem EX3_seatBound {N : Nat} {σ : Sg} {Q : Option Value → Sg → Prop} (h : KX3_seatBound_7 N (u1 σ 22 9 0) Q 0) : EvM (N + 2) mX3_seatBound [.ref 22] σ Q := by
  refine ev_entry rfl (Nat.le_of_ble_eq_true rfl) (lv := [(0, .ref 22)]) rfl ?_
  refine ev_aload_n 0 dX3_seatBound_0 rfl ?_
  refine ev_iconst 0 dX3_seatBound_1 (by decide) ?_
  refine ev_put G3 lay_22 (k := 9) rfl (Nat.le_of_ble_eq_true rfl) rfl (by decide +kernel) dX3_seatBound_2 w_226 ?_
  refine ev_iconst 0 dX3_seatBound_5 (by decide) ?_
  refine ev_istore_n (lv' := [(1, .int 0), (0, .ref 22)]) dX3_seatBound_6 (Nat.le_of_ble_eq_true rfl) rfl ?_
  refine ev_sub [1, 0] rfl ?_
  exact h
theorem BX3_seatBound_7 {N : Nat} {σ : Sg} {Q : Option Value → Sg → Prop} {x1 : Int32} (h : ((σ.1 1 3) ≤ x1 → Q none σ) ∧ (¬ (σ.1 1 3) ≤ x1 → (8 ≤ (σ.1 22 9) → Q none σ) ∧ (¬ 8 ≤ (σ.1 22 9) → EvM (N + 1) mX3_isBound [.ref 22, .int x1] σ (fun r9 σ1 => ∃ v1, r9 = some (.int v1) ∧ ((v1 = 0 → KX3_seatBound_7 N σ1 Q (x1 + 1)) ∧ (¬ v1 = 0 → vp_in (σ1.1 22 9) 8 ∧ (KX3_seatBound_7 N (u1 (u1 σ1 99 (σ1.1 22 9).toNatClampNeg x1) 22 9 (((u1 σ1 99 (σ1.1 22 9).toNatClampNeg x1).1 22 9) + 1)) Q (x1 + 1)))))))) : KX3_seatBound_7 N σ Q x1 := by
  refine ev_iload_n 1 dX3_seatBound_7 rfl ?_
  refine ev_aload_n 0 dX3_seatBound_8 rfl ?_
  refine ev_getR (r := 1) G3 lay_22 (k := 0) rfl (Nat.le_of_ble_eq_true rfl) dX3_seatBound_9 w_217 ?_
  refine ev_callV (M' := mX2_size) [] vX2_size G2 lay_1 dX3_seatBound_12 w_731 rfl rfl (Nat.le_of_ble_eq_true rfl) (EX2_size (Q := fun r9 s9 => σ = s9 ∧ r9 = some (.int (σ.1 1 3))) ⟨rfl, rfl⟩) ?_
  rintro r9 s9 ⟨rfl, rfl⟩
  refine ev_icmp_ge 64 dX3_seatBound_15 (by decide) (fun c9 => ?_) (fun c9 => ?_)
  · replace h := h.1 c9
    exact ev_vret rfl dX3_seatBound_64 h
  · replace h := h.2 c9
    refine ev_aload_n 0 dX3_seatBound_18 rfl ?_
    refine ev_get G3 lay_22 (k := 9) rfl (Nat.le_of_ble_eq_true rfl) dX3_seatBound_19 w_226 ?_
    refine ev_bipush 8 dX3_seatBound_22 (by decide) ?_
    refine ev_icmp_ge 64 dX3_seatBound_24 (by decide) (fun c9 => ?_) (fun c9 => ?_)
    · replace h := h.1 c9
      exact ev_vret rfl dX3_seatBound_64 h
    · replace h := h.2 c9
      refine ev_aload_n 0 dX3_seatBound_27 rfl ?_
      refine ev_iload_n 1 dX3_seatBound_28 rfl ?_
      refine ev_callV (M' := mX3_isBound) [.int x1] vX3_isBound G3 lay_22 dX3_seatBound_29 w_741 rfl rfl (Nat.le_of_ble_eq_true rfl) h ?_
      rintro r9 σ1 ⟨v1, rfl, h⟩
      refine ev_if_ne 38 dX3_seatBound_32 (by decide) (fun c9 => ?_) (fun c9 => ?_)
      · replace h := h.2 c9
        refine ev_aload_n 0 dX3_seatBound_38 rfl ?_
        refine ev_getR (r := 99) G3 lay_22 (k := 6) rfl (Nat.le_of_ble_eq_true rfl) dX3_seatBound_39 w_223 ?_
        refine ev_aload_n 0 dX3_seatBound_42 rfl ?_
        refine ev_get G3 lay_22 (k := 9) rfl (Nat.le_of_ble_eq_true rfl) dX3_seatBound_43 w_226 ?_
        refine ev_iload_n 1 dX3_seatBound_46 rfl ?_
        have hb47 := h.1
        replace h := h.2
        refine ev_iast lay_99 (Nat.le_of_ble_eq_true rfl) hb47 dX3_seatBound_47 ?_
        refine ev_aload_n 0 dX3_seatBound_48 rfl ?_
        refine ev_dup dX3_seatBound_49 rfl ?_
        refine ev_get G3 lay_22 (k := 9) rfl (Nat.le_of_ble_eq_true rfl) dX3_seatBound_50 w_226 ?_
        refine ev_iconst 1 dX3_seatBound_53 (by decide) ?_
        refine ev_iadd dX3_seatBound_54 ?_
        refine ev_put G3 lay_22 (k := 9) rfl (Nat.le_of_ble_eq_true rfl) rfl (by decide +kernel) dX3_seatBound_55 w_226 ?_
        refine ev_iinc (lv' := [(1, .int (x1 + 1)), (0, .ref 22)]) (x1 + 1) 1 dX3_seatBound_58 rfl rfl (Nat.le_of_ble_eq_true rfl) rfl ?_
        refine ev_goto 7 dX3_seatBound_61 (by decide) ?_
        refine ev_sub [1, 0] rfl ?_
        exact h
      · replace h := h.1 c9
        refine ev_goto 58 dX3_seatBound_35 (by decide) ?_
        refine ev_iinc (lv' := [(1, .int (x1 + 1)), (0, .ref 22)]) (x1 + 1) 1 dX3_seatBound_58 rfl rfl (Nat.le_of_ble_eq_true rfl) rfl ?_
        refine ev_goto 7 dX3_seatBound_61 (by decide) ?_
        refine ev_sub [1, 0] rfl ?_
        exact h
abbrev KX3_isBound_2 (N : Nat) (σ : Sg) (Q : Option Value → Sg → Prop) (x1 : Int32) (x2 : Int32) : Prop := Ev (N + 1) mX3_isBound 2 [(0, .ref 22), (1, .int x1), (2, .int x2)] [] σ Q
theorem EX3_isBound {N : Nat} {σ : Sg} {Q : Option Value → Sg → Prop} {x1 : Int32} (h : KX3_isBound_2 N σ Q x1 0) : EvM (N + 1) mX3_isBound [.ref 22, .int x1] σ Q := by
  refine ev_entry rfl (Nat.le_of_ble_eq_true rfl) (lv := [(0, .ref 22), (1, .int x1)]) rfl ?_
  refine ev_iconst 0 dX3_isBound_0 (by decide) ?_
  refine ev_istore_n (lv' := [(2, .int 0), (0, .ref 22), (1, .int x1)]) dX3_isBound_1 (Nat.le_of_ble_eq_true rfl) rfl ?_
  refine ev_sub [1, 2, 0] rfl ?_
  exact h
theorem BX3_isBound_2 {N : Nat} {σ : Sg} {Q : Option Value → Sg → Prop} {x1 : Int32} {x2 : Int32} (h : ((σ.1 1 3) ≤ x2 → Q (some (.int 0)) σ) ∧ (¬ (σ.1 1 3) ≤ x2 → (x2 = x1 → KX3_isBound_2 N σ Q x1 (x2 + 1)) ∧ (¬ x2 = x1 → vp_in x1 24 ∧ (vp_in x2 24 ∧ ((0 < (σ.1 (49 + (x1).toNatClampNeg) (x2).toNatClampNeg) → Q (some (.int 1)) σ) ∧ (¬ 0 < (σ.1 (49 + (x1).toNatClampNeg) (x2).toNatClampNeg) → vp_in x1 24 ∧ (vp_in x2 24 ∧ (((σ.1 (74 + (x1).toNatClampNeg) (x2).toNatClampNeg) ≤ 0 → KX3_isBound_2 N σ Q x1 (x2 + 1)) ∧ (¬ (σ.1 (74 + (x1).toNatClampNeg) (x2).toNatClampNeg) ≤ 0 → Q (some (.int 1)) σ))))))))) : KX3_isBound_2 N σ Q x1 x2 := by
  refine ev_iload_n 2 dX3_isBound_2 rfl ?_
  refine ev_aload_n 0 dX3_isBound_3 rfl ?_
  refine ev_getR (r := 1) G3 lay_22 (k := 0) rfl (Nat.le_of_ble_eq_true rfl) dX3_isBound_4 w_217 ?_
  refine ev_callV (M' := mX2_size) [] vX2_size G2 lay_1 dX3_isBound_7 w_731 rfl rfl (Nat.le_of_ble_eq_true rfl) (EX2_size (Q := fun r9 s9 => σ = s9 ∧ r9 = some (.int (σ.1 1 3))) ⟨rfl, rfl⟩) ?_
  rintro r9 s9 ⟨rfl, rfl⟩
  refine ev_icmp_ge 48 dX3_isBound_10 (by decide) (fun c9 => ?_) (fun c9 => ?_)
  · replace h := h.1 c9
    refine ev_iconst 0 dX3_isBound_48 (by decide) ?_
    exact ev_zret (ty := .boolean) rfl (by rfl) dX3_isBound_49 h
  · replace h := h.2 c9
    refine ev_iload_n 2 dX3_isBound_13 rfl ?_
    refine ev_iload_n 1 dX3_isBound_14 rfl ?_
    refine ev_icmp_eq 42 dX3_isBound_15 (by decide) (fun c9 => ?_) (fun c9 => ?_)
    · replace h := h.1 c9
      refine ev_iinc (lv' := [(2, .int (x2 + 1)), (0, .ref 22), (1, .int x1)]) (x2 + 1) 2 dX3_isBound_42 rfl rfl (Nat.le_of_ble_eq_true rfl) rfl ?_
      refine ev_goto 2 dX3_isBound_45 (by decide) ?_
      refine ev_sub [1, 2, 0] rfl ?_
      exact h
    · replace h := h.2 c9
      refine ev_aload_n 0 dX3_isBound_18 rfl ?_
      refine ev_getR (r := 48) G3 lay_22 (k := 3) rfl (Nat.le_of_ble_eq_true rfl) dX3_isBound_19 w_220 ?_
      refine ev_iload_n 1 dX3_isBound_22 rfl ?_
      have hb23 := h.1
      replace h := h.2
      refine ev_aald (b := 49) lay_48 (Nat.le_of_ble_eq_true rfl) hb23 dX3_isBound_23 ?_
      refine ev_iload_n 2 dX3_isBound_24 rfl ?_
      have hb25 := h.1
      replace h := h.2
      refine ev_iald (layr_49 _ (Nat.not_le.mp fun q9 => hb23 (Or.inr q9))).1 (layr_49 _ (Nat.not_le.mp fun q9 => hb23 (Or.inr q9))).2 hb25 dX3_isBound_25 ?_
      refine ev_if_gt 40 dX3_isBound_26 (by decide) (fun c9 => ?_) (fun c9 => ?_)
      · replace h := h.1 c9
        refine ev_iconst 1 dX3_isBound_40 (by decide) ?_
        exact ev_zret (ty := .boolean) rfl (by rfl) dX3_isBound_41 h
      · replace h := h.2 c9
        refine ev_aload_n 0 dX3_isBound_29 rfl ?_
        refine ev_getR (r := 73) G3 lay_22 (k := 4) rfl (Nat.le_of_ble_eq_true rfl) dX3_isBound_30 w_221 ?_
        refine ev_iload_n 1 dX3_isBound_33 rfl ?_
        have hb34 := h.1
        replace h := h.2
        refine ev_aald (b := 74) lay_73 (Nat.le_of_ble_eq_true rfl) hb34 dX3_isBound_34 ?_
        refine ev_iload_n 2 dX3_isBound_35 rfl ?_
        have hb36 := h.1
        replace h := h.2
        refine ev_iald (layr_74 _ (Nat.not_le.mp fun q9 => hb34 (Or.inr q9))).1 (layr_74 _ (Nat.not_le.mp fun q9 => hb34 (Or.inr q9))).2 hb36 dX3_isBound_36 ?_
        refine ev_if_le 42 dX3_isBound_37 (by decide) (fun c9 => ?_) (fun c9 => ?_)
        · replace h := h.1 c9
          refine ev_iinc (lv' := [(2, .int (x2 + 1)), (0, .ref 22), (1, .int x1)]) (x2 + 1) 2 dX3_isBound_42 rfl rfl (Nat.le_of_ble_eq_true rfl) rfl ?_
          refine ev_goto 2 dX3_isBound_45 (by decide) ?_
          refine ev_sub [1, 2, 0] rfl ?_
          exact h
        · replace h := h.2 c9
          refine ev_iconst 1 dX3_isBound_40 (by decide) ?_
          exact ev_zret (ty := .boolean) rfl (by rfl) dX3_isBound_41 h
abbrev KX3_keep_7 (N : Nat) (σ : Sg) (Q : Option Value → Sg → Prop) (x2 : Int32) : Prop := Ev N mX3_keep 7 [(0, .ref 22), (2, .int x2)] [] σ Q
theorem EX3_keep {N : Nat} {σ : Sg} {Q : Option Value → Sg → Prop} {x1 : Int32} (h : KX3_keep_7 N (u1 σ 22 10 x1) Q 0) : EvM N mX3_keep [.ref 22, .int x1] σ Q := by
  refine ev_entry rfl (Nat.le_of_ble_eq_true rfl) (lv := [(0, .ref 22), (1, .int x1)]) rfl ?_
  refine ev_aload_n 0 dX3_keep_0 rfl ?_
  refine ev_iload_n 1 dX3_keep_1 rfl ?_
  refine ev_put G3 lay_22 (k := 10) rfl (Nat.le_of_ble_eq_true rfl) rfl (by decide +kernel) dX3_keep_2 w_227 ?_
  refine ev_iconst 0 dX3_keep_5 (by decide) ?_
  refine ev_istore_n (lv' := [(2, .int 0), (0, .ref 22), (1, .int x1)]) dX3_keep_6 (Nat.le_of_ble_eq_true rfl) rfl ?_
  refine ev_sub [1, 0] rfl ?_
  exact h
theorem BX3_keep_7 {N : Nat} {σ : Sg} {Q : Option Value → Sg → Prop} {x2 : Int32} (h : (8 ≤ x2 → Q none σ) ∧ (¬ 8 ≤ x2 → vp_in x2 8 ∧ (vp_in x2 8 ∧ (KX3_keep_7 N (u1 σ 101 (x2).toNatClampNeg (σ.1 100 (x2).toNatClampNeg)) Q (x2 + 1))))) : KX3_keep_7 N σ Q x2 := by
  refine ev_iload_n 1 dX3_keep_7 rfl ?_
  refine ev_bipush 8 dX3_keep_8 (by decide) ?_
  refine ev_icmp_ge 31 dX3_keep_10 (by decide) (fun c9 => ?_) (fun c9 => ?_)
  · replace h := h.1 c9
    exact ev_vret rfl dX3_keep_31 h
  · replace h := h.2 c9
    refine ev_aload_n 0 dX3_keep_13 rfl ?_
    refine ev_getR (r := 101) G3 lay_22 (k := 8) rfl (Nat.le_of_ble_eq_true rfl) dX3_keep_14 w_225 ?_
    refine ev_iload_n 1 dX3_keep_17 rfl ?_
    refine ev_aload_n 0 dX3_keep_18 rfl ?_
    refine ev_getR (r := 100) G3 lay_22 (k := 7) rfl (Nat.le_of_ble_eq_true rfl) dX3_keep_19 w_224 ?_
    refine ev_iload_n 1 dX3_keep_22 rfl ?_
    have hb23 := h.1
    replace h := h.2
    refine ev_iald lay_100 (Nat.le_of_ble_eq_true rfl) hb23 dX3_keep_23 ?_
    have hb24 := h.1
    replace h := h.2
    refine ev_iast lay_101 (Nat.le_of_ble_eq_true rfl) hb24 dX3_keep_24 ?_
    refine ev_iinc (lv' := [(2, .int (x2 + 1)), (0, .ref 22)]) (x2 + 1) 1 dX3_keep_25 rfl rfl (Nat.le_of_ble_eq_true rfl) rfl ?_
    refine ev_goto 7 dX3_keep_28 (by decide) ?_
    refine ev_sub [1, 0] rfl ?_
    exact h
abbrev KX3_quarrelOf_4 (N : Nat) (σ : Sg) (Q : Option Value → Sg → Prop) (x1 : Int32) (x2 : Int32) (x3 : Int32) : Prop := Ev N mX3_quarrelOf 4 [(0, .ref 22), (1, .int x1), (2, .int x2), (3, .int x3)] [] σ Q
theorem EX3_quarrelOf {N : Nat} {σ : Sg} {Q : Option Value → Sg → Prop} {x1 : Int32} (h : KX3_quarrelOf_4 N σ Q x1 0 0) : EvM N mX3_quarrelOf [.ref 22, .int x1] σ Q := by
  refine ev_entry rfl (Nat.le_of_ble_eq_true rfl) (lv := [(0, .ref 22), (1, .int x1)]) rfl ?_
  refine ev_iconst 0 dX3_quarrelOf_0 (by decide) ?_
  refine ev_istore_n (lv' := [(2, .int 0), (0, .ref 22), (1, .int x1)]) dX3_quarrelOf_1 (Nat.le_of_ble_eq_true rfl) rfl ?_
  refine ev_iconst 0 dX3_quarrelOf_2 (by decide) ?_
  refine ev_istore_n (lv' := [(3, .int 0), (2, .int 0), (0, .ref 22), (1, .int x1)]) dX3_quarrelOf_3 (Nat.le_of_ble_eq_true rfl) rfl ?_
  refine ev_sub [2, 3, 1, 0] rfl ?_
  exact h
theorem BX3_quarrelOf_4 {N : Nat} {σ : Sg} {Q : Option Value → Sg → Prop} {x1 : Int32} {x2 : Int32} {x3 : Int32} (h : (x1 ≤ x3 → Q (some (.int x2)) σ) ∧ (¬ x1 ≤ x3 → vp_in x1 8 ∧ (vp_in x3 8 ∧ (((σ.1 100 (x1).toNatClampNeg) = (σ.1 100 (x3).toNatClampNeg) → vp_in x1 8 ∧ (vp_in (σ.1 99 (x1).toNatClampNeg) 24 ∧ (vp_in x3 8 ∧ (vp_in (σ.1 99 (x3).toNatClampNeg) 24 ∧ (KX3_quarrelOf_4 N σ Q x1 (x2 + (σ.1 (74 + (σ.1 99 (x1).toNatClampNeg).toNatClampNeg) (σ.1 99 (x3).toNatClampNeg).toNatClampNeg)) (x3 + 1)))))) ∧ (¬ (σ.1 100 (x1).toNatClampNeg) = (σ.1 100 (x3).toNatClampNeg) → vp_in x1 8 ∧ (vp_in (σ.1 99 (x1).toNatClampNeg) 24 ∧ (vp_in x3 8 ∧ (vp_in (σ.1 99 (x3).toNatClampNeg) 24 ∧ (KX3_quarrelOf_4 N σ Q x1 (x2 + (σ.1 (49 + (σ.1 99 (x1).toNatClampNeg).toNatClampNeg) (σ.1 99 (x3).toNatClampNeg).toNatClampNeg)) (x3 + 1)))))))))) : KX3_quarrelOf_4 N σ Q x1 x2 x3 := by
  refine ev_iload_n 3 dX3_quarrelOf_4 rfl ?_
  refine ev_iload_n 1 dX3_quarrelOf_5 rfl ?_
  refine ev_icmp_ge 62 dX3_quarrelOf_6 (by decide) (fun c9 => ?_) (fun c9 => ?_)
  · replace h := h.1 c9
    refine ev_iload_n 2 dX3_quarrelOf_62 rfl ?_
    exact ev_iret rfl dX3_quarrelOf_63 h
  · replace h := h.2 c9
    refine ev_aload_n 0 dX3_quarrelOf_9 rfl ?_
    refine ev_getR (r := 100) G3 lay_22 (k := 7) rfl (Nat.le_of_ble_eq_true rfl) dX3_quarrelOf_10 w_224 ?_
    refine ev_iload_n 1 dX3_quarrelOf_13 rfl ?_
    have hb14 := h.1
    replace h := h.2
    refine ev_iald lay_100 (Nat.le_of_ble_eq_true rfl) hb14 dX3_quarrelOf_14 ?_
    refine ev_aload_n 0 dX3_quarrelOf_15 rfl ?_
    refine ev_getR (r := 100) G3 lay_22 (k := 7) rfl (Nat.le_of_ble_eq_true rfl) dX3_quarrelOf_16 w_224 ?_
    refine ev_iload_n 3 dX3_quarrelOf_19 rfl ?_
    have hb20 := h.1
    replace h := h.2
    refine ev_iald lay_100 (Nat.le_of_ble_eq_true rfl) hb20 dX3_quarrelOf_20 ?_
    refine ev_icmp_ne 31 dX3_quarrelOf_21 (by decide) (fun c9 => ?_) (fun c9 => ?_)
    · replace h := h.2 c9
      refine ev_aload_n 0 dX3_quarrelOf_31 rfl ?_
      refine ev_getR (r := 48) G3 lay_22 (k := 3) rfl (Nat.le_of_ble_eq_true rfl) dX3_quarrelOf_32 w_220 ?_
      refine ev_astore (lv' := [(4, .ref 48), (0, .ref 22), (1, .int x1), (2, .int x2), (3, .int x3)]) dX3_quarrelOf_35 (Nat.le_of_ble_eq_true rfl) rfl ?_
      refine ev_iload_n 3 dX3_quarrelOf_37 rfl ?_
      refine ev_aload 0 dX3_quarrelOf_38 rfl ?_
      refine ev_aload_n 1 dX3_quarrelOf_40 rfl ?_
      refine ev_getR (r := 99) G3 lay_22 (k := 6) rfl (Nat.le_of_ble_eq_true rfl) dX3_quarrelOf_41 w_223 ?_
      refine ev_iload_n 2 dX3_quarrelOf_44 rfl ?_
      have hb45 := h.1
      replace h := h.2
      refine ev_iald lay_99 (Nat.le_of_ble_eq_true rfl) hb45 dX3_quarrelOf_45 ?_
      have hb46 := h.1
      replace h := h.2
      refine ev_aald (b := 49) lay_48 (Nat.le_of_ble_eq_true rfl) hb46 dX3_quarrelOf_46 ?_
      refine ev_aload_n 1 dX3_quarrelOf_47 rfl ?_
      refine ev_getR (r := 99) G3 lay_22 (k := 6) rfl (Nat.le_of_ble_eq_true rfl) dX3_quarrelOf_48 w_223 ?_
      refine ev_iload_n 4 dX3_quarrelOf_51 rfl ?_
      have hb52 := h.1
      replace h := h.2
      refine ev_iald lay_99 (Nat.le_of_ble_eq_true rfl) hb52 dX3_quarrelOf_52 ?_
      have hb53 := h.1
      replace h := h.2
      refine ev_iald (layr_49 _ (Nat.not_le.mp fun q9 => hb46 (Or.inr q9))).1 (layr_49 _ (Nat.not_le.mp fun q9 => hb46 (Or.inr q9))).2 hb53 dX3_quarrelOf_53 ?_
      refine ev_iadd dX3_quarrelOf_54 ?_
      refine ev_istore_n (lv' := [(2, .int (x2 + (σ.1 (49 + (σ.1 99 (x1).toNatClampNeg).toNatClampNeg) (σ.1 99 (x3).toNatClampNeg).toNatClampNeg))), (4, .ref 48), (0, .ref 22), (1, .int x1), (3, .int x3)]) dX3_quarrelOf_55 (Nat.le_of_ble_eq_true rfl) rfl ?_
      refine ev_iinc (lv' := [(3, .int (x3 + 1)), (2, .int (x2 + (σ.1 (49 + (σ.1 99 (x1).toNatClampNeg).toNatClampNeg) (σ.1 99 (x3).toNatClampNeg).toNatClampNeg))), (4, .ref 48), (0, .ref 22), (1, .int x1)]) (x3 + 1) 4 dX3_quarrelOf_56 rfl rfl (Nat.le_of_ble_eq_true rfl) rfl ?_
      refine ev_goto 4 dX3_quarrelOf_59 (by decide) ?_
      refine ev_sub [3, 4, 1, 0] rfl ?_
      exact h
    · replace h := h.1 c9
      refine ev_aload_n 0 dX3_quarrelOf_24 rfl ?_
      refine ev_getR (r := 73) G3 lay_22 (k := 4) rfl (Nat.le_of_ble_eq_true rfl) dX3_quarrelOf_25 w_221 ?_
      refine ev_goto 35 dX3_quarrelOf_28 (by decide) ?_
      refine ev_astore (lv' := [(4, .ref 73), (0, .ref 22), (1, .int x1), (2, .int x2), (3, .int x3)]) dX3_quarrelOf_35 (Nat.le_of_ble_eq_true rfl) rfl ?_
      refine ev_iload_n 3 dX3_quarrelOf_37 rfl ?_
      refine ev_aload 0 dX3_quarrelOf_38 rfl ?_
      refine ev_aload_n 1 dX3_quarrelOf_40 rfl ?_
      refine ev_getR (r := 99) G3 lay_22 (k := 6) rfl (Nat.le_of_ble_eq_true rfl) dX3_quarrelOf_41 w_223 ?_
      refine ev_iload_n 2 dX3_quarrelOf_44 rfl ?_
      have hb45 := h.1
      replace h := h.2
      refine ev_iald lay_99 (Nat.le_of_ble_eq_true rfl) hb45 dX3_quarrelOf_45 ?_
      have hb46 := h.1
      replace h := h.2
      refine ev_aald (b := 74) lay_73 (Nat.le_of_ble_eq_true rfl) hb46 dX3_quarrelOf_46 ?_
      refine ev_aload_n 1 dX3_quarrelOf_47 rfl ?_
      refine ev_getR (r := 99) G3 lay_22 (k := 6) rfl (Nat.le_of_ble_eq_true rfl) dX3_quarrelOf_48 w_223 ?_
      refine ev_iload_n 4 dX3_quarrelOf_51 rfl ?_
      have hb52 := h.1
      replace h := h.2
      refine ev_iald lay_99 (Nat.le_of_ble_eq_true rfl) hb52 dX3_quarrelOf_52 ?_
      have hb53 := h.1
      replace h := h.2
      refine ev_iald (layr_74 _ (Nat.not_le.mp fun q9 => hb46 (Or.inr q9))).1 (layr_74 _ (Nat.not_le.mp fun q9 => hb46 (Or.inr q9))).2 hb53 dX3_quarrelOf_53 ?_
      refine ev_iadd dX3_quarrelOf_54 ?_
      refine ev_istore_n (lv' := [(2, .int (x2 + (σ.1 (74 + (σ.1 99 (x1).toNatClampNeg).toNatClampNeg) (σ.1 99 (x3).toNatClampNeg).toNatClampNeg))), (4, .ref 73), (0, .ref 22), (1, .int x1), (3, .int x3)]) dX3_quarrelOf_55 (Nat.le_of_ble_eq_true rfl) rfl ?_
      refine ev_iinc (lv' := [(3, .int (x3 + 1)), (2, .int (x2 + (σ.1 (74 + (σ.1 99 (x1).toNatClampNeg).toNatClampNeg) (σ.1 99 (x3).toNatClampNeg).toNatClampNeg))), (4, .ref 73), (0, .ref 22), (1, .int x1)]) (x3 + 1) 4 dX3_quarrelOf_56 rfl rfl (Nat.le_of_ble_eq_true rfl) rfl ?_
      refine ev_goto 4 dX3_quarrelOf_59 (by decide) ?_
      refine ev_sub [3, 4, 1, 0] rfl ?_
      exact h
abbrev KX6_append_15 (N : Nat) (σ : Sg) (Q : Option Value → Sg → Prop) (y1 : Int64) (x3 : Int32) : Prop := Ev N mX6_append 15 [(0, .ref 228), (1, .long y1), (3, .int x3)] [] σ Q
theorem EX6_append {N : Nat} {σ : Sg} {Q : Option Value → Sg → Prop} {y1 : Int64} (h : ((σ.1 228 1) ≤ 152 → KX6_append_15 N σ Q y1 0) ∧ (¬ (σ.1 228 1) ≤ 152 → Q (some (.int (-3))) σ)) : EvM N mX6_append [.ref 228, .long y1] σ Q := by
  refine ev_entry rfl (Nat.le_of_ble_eq_true rfl) (lv := [(0, .ref 228), (1, .long y1)]) rfl ?_
  refine ev_aload_n 0 dX6_append_0 rfl ?_
  refine ev_get G6 lay_228 (k := 1) rfl (Nat.le_of_ble_eq_true rfl) dX6_append_1 w_194 ?_
  refine ev_sipush 152 dX6_append_4 (by decide) ?_
  refine ev_icmp_le 13 dX6_append_7 (by decide) (fun c9 => ?_) (fun c9 => ?_)
  · replace h := h.1 c9
    refine ev_iconst 0 dX6_append_13 (by decide) ?_
    refine ev_istore_n (lv' := [(3, .int 0), (0, .ref 228), (1, .long y1)]) dX6_append_14 (Nat.le_of_ble_eq_true rfl) rfl ?_
    refine ev_sub [1, 2, 0] rfl ?_
    exact h
  · replace h := h.2 c9
    refine ev_bipush (-3) dX6_append_10 (by decide) ?_
    exact ev_iret rfl dX6_append_12 h
theorem BX6_append_15 {N : Nat} {σ : Sg} {Q : Option Value → Sg → Prop} {y1 : Int64} {x3 : Int32} (h : (8 ≤ x3 → Q (some (.int ((u1 σ 228 1 ((σ.1 228 1) + 8)).1 228 1))) (u1 σ 228 1 ((σ.1 228 1) + 8))) ∧ (¬ 8 ≤ x3 → vp_in ((σ.1 228 1) + x3) 160 ∧ (KX6_append_15 N (u1 σ 229 ((σ.1 228 1) + x3).toNatClampNeg (vp_nar .byte (((y1 >>> ((8 * (7 - x3)).toInt64 &&& 63)).toInt32).toInt8.toInt32))) Q y1 (x3 + 1)))) : KX6_append_15 N σ Q y1 x3 := by
  refine ev_iload_n 2 dX6_append_15 rfl ?_
  refine ev_bipush 8 dX6_append_16 (by decide) ?_
  refine ev_icmp_ge 49 dX6_append_18 (by decide) (fun c9 => ?_) (fun c9 => ?_)
  · replace h := h.1 c9
    refine ev_aload_n 0 dX6_append_49 rfl ?_
    refine ev_dup dX6_append_50 rfl ?_
    refine ev_get G6 lay_228 (k := 1) rfl (Nat.le_of_ble_eq_true rfl) dX6_append_51 w_194 ?_
    refine ev_bipush 8 dX6_append_54 (by decide) ?_
    refine ev_iadd dX6_append_56 ?_
    refine ev_put G6 lay_228 (k := 1) rfl (Nat.le_of_ble_eq_true rfl) rfl (by decide +kernel) dX6_append_57 w_194 ?_
    refine ev_aload_n 0 dX6_append_60 rfl ?_
    refine ev_get G6 lay_228 (k := 1) rfl (Nat.le_of_ble_eq_true rfl) dX6_append_61 w_194 ?_
    exact ev_iret rfl dX6_append_64 h
  · replace h := h.2 c9
    refine ev_aload_n 0 dX6_append_21 rfl ?_
    refine ev_getR (r := 229) G6 lay_228 (k := 0) rfl (Nat.le_of_ble_eq_true rfl) dX6_append_22 w_193 ?_
    refine ev_aload_n 0 dX6_append_25 rfl ?_
    refine ev_get G6 lay_228 (k := 1) rfl (Nat.le_of_ble_eq_true rfl) dX6_append_26 w_194 ?_
    refine ev_iload_n 2 dX6_append_29 rfl ?_
    refine ev_iadd dX6_append_30 ?_
    refine ev_lload_n 1 dX6_append_31 rfl ?_
    refine ev_bipush 8 dX6_append_32 (by decide) ?_
    refine ev_bipush 7 dX6_append_34 (by decide) ?_
    refine ev_iload_n 2 dX6_append_36 rfl ?_
    refine ev_isub dX6_append_37 ?_
    refine ev_imul dX6_append_38 ?_
    refine ev_lshr dX6_append_39 ?_
    refine ev_l2i dX6_append_40 ?_
    refine ev_i2b dX6_append_41 ?_
    have hb42 := h.1
    replace h := h.2
    refine ev_bast lay_229 (Nat.le_of_ble_eq_true rfl) hb42 dX6_append_42 ?_
    refine ev_iinc (lv' := [(3, .int (x3 + 1)), (0, .ref 228), (1, .long y1)]) (x3 + 1) 2 dX6_append_43 rfl rfl (Nat.le_of_ble_eq_true rfl) rfl ?_
    refine ev_goto 15 dX6_append_46 (by decide) ?_
    refine ev_sub [1, 2, 0] rfl ?_
    exact h
theorem EX6_cut {N : Nat} {σ : Sg} {Q : Option Value → Sg → Prop} {x1 : Int32} (h : (x1 < 0 → Q (some (.int (-1))) σ) ∧ (¬ x1 < 0 → (x1 ≤ (σ.1 228 1) → Q (some (.int (σ.1 228 1))) (u1 σ 228 1 x1)) ∧ (¬ x1 ≤ (σ.1 228 1) → Q (some (.int (-1))) σ))) : EvM N mX6_cut [.ref 228, .int x1] σ Q := by
  refine ev_entry rfl (Nat.le_of_ble_eq_true rfl) (lv := [(0, .ref 228), (1, .int x1)]) rfl ?_
  refine ev_iload_n 1 dX6_cut_0 rfl ?_
  refine ev_if_lt 12 dX6_cut_1 (by decide) (fun c9 => ?_) (fun c9 => ?_)
  · replace h := h.1 c9
    refine ev_iconst (-1) dX6_cut_12 (by decide) ?_
    exact ev_iret rfl dX6_cut_13 h
  · replace h := h.2 c9
    refine ev_iload_n 1 dX6_cut_4 rfl ?_
    refine ev_aload_n 0 dX6_cut_5 rfl ?_
    refine ev_get G6 lay_228 (k := 1) rfl (Nat.le_of_ble_eq_true rfl) dX6_cut_6 w_194 ?_
    refine ev_icmp_le 14 dX6_cut_9 (by decide) (fun c9 => ?_) (fun c9 => ?_)
    · replace h := h.1 c9
      refine ev_aload_n 0 dX6_cut_14 rfl ?_
      refine ev_get G6 lay_228 (k := 1) rfl (Nat.le_of_ble_eq_true rfl) dX6_cut_15 w_194 ?_
      refine ev_istore_n (lv' := [(2, .int (σ.1 228 1)), (0, .ref 228), (1, .int x1)]) dX6_cut_18 (Nat.le_of_ble_eq_true rfl) rfl ?_
      refine ev_aload_n 1 dX6_cut_19 rfl ?_
      refine ev_iload_n 2 dX6_cut_20 rfl ?_
      refine ev_put G6 lay_228 (k := 1) rfl (Nat.le_of_ble_eq_true rfl) rfl (by decide +kernel) dX6_cut_21 w_194 ?_
      refine ev_iload_n 0 dX6_cut_24 rfl ?_
      exact ev_iret rfl dX6_cut_25 h
    · replace h := h.2 c9
      refine ev_iconst (-1) dX6_cut_12 (by decide) ?_
      exact ev_iret rfl dX6_cut_13 h
theorem EX6_rewind {N : Nat} {σ : Sg} {Q : Option Value → Sg → Prop} (h : Q none (u1 σ 228 2 0)) : EvM N mX6_rewind [.ref 228] σ Q := by
  refine ev_entry rfl (Nat.le_of_ble_eq_true rfl) (lv := [(0, .ref 228)]) rfl ?_
  refine ev_aload_n 0 dX6_rewind_0 rfl ?_
  refine ev_iconst 0 dX6_rewind_1 (by decide) ?_
  refine ev_put G6 lay_228 (k := 2) rfl (Nat.le_of_ble_eq_true rfl) rfl (by decide +kernel) dX6_rewind_2 w_195 ?_
  exact ev_vret rfl dX6_rewind_5 h
abbrev KX6_nextToken_0 (N : Nat) (σ : Sg) (Q : Option Value → Sg → Prop) : Prop := Ev (N + 10) mX6_nextToken 0 [(0, .ref 228)] [] σ Q
theorem EX6_nextToken {N : Nat} {σ : Sg} {Q : Option Value → Sg → Prop} (h : ((σ.1 228 1) ≤ (σ.1 228 2) → (((u1 σ 228 3 (σ.1 228 2)).1 228 2) < ((u1 σ 228 3 (σ.1 228 2)).1 228 1) → vp_in ((u1 σ 228 3 (σ.1 228 2)).1 228 2) 160 ∧ (((97 ≤ ((u1 σ 228 3 (σ.1 228 2)).1 229 ((u1 σ 228 3 (σ.1 228 2)).1 228 2).toNatClampNeg).toInt ∧ ((u1 σ 228 3 (σ.1 228 2)).1 229 ((u1 σ 228 3 (σ.1 228 2)).1 228 2).toNatClampNeg).toInt ≤ 122) → EvM (N + 9) mX6_takeName [.ref 228] (u1 σ 228 3 (σ.1 228 2)) (fun r9 σ1 => ∃ v1, r9 = some (.int v1) ∧ (Q (some (.int v1)) σ1))) ∧ (¬ (97 ≤ ((u1 σ 228 3 (σ.1 228 2)).1 229 ((u1 σ 228 3 (σ.1 228 2)).1 228 2).toNatClampNeg).toInt ∧ ((u1 σ 228 3 (σ.1 228 2)).1 229 ((u1 σ 228 3 (σ.1 228 2)).1 228 2).toNatClampNeg).toInt ≤ 122) → ((48 ≤ ((u1 σ 228 3 (σ.1 228 2)).1 229 ((u1 σ 228 3 (σ.1 228 2)).1 228 2).toNatClampNeg).toInt ∧ ((u1 σ 228 3 (σ.1 228 2)).1 229 ((u1 σ 228 3 (σ.1 228 2)).1 228 2).toNatClampNeg).toInt ≤ 57) → EvM (N + 9) mX6_takeNumber [.ref 228] (u1 σ 228 3 (σ.1 228 2)) (fun r9 σ2 => ∃ v2, r9 = some (.int v2) ∧ (Q (some (.int v2)) σ2))) ∧ (¬ (48 ≤ ((u1 σ 228 3 (σ.1 228 2)).1 229 ((u1 σ 228 3 (σ.1 228 2)).1 228 2).toNatClampNeg).toInt ∧ ((u1 σ 228 3 (σ.1 228 2)).1 229 ((u1 σ 228 3 (σ.1 228 2)).1 228 2).toNatClampNeg).toInt ≤ 57) → (((u1 σ 228 3 (σ.1 228 2)).1 229 ((u1 σ 228 3 (σ.1 228 2)).1 228 2).toNatClampNeg) = 44 → Q (some (.int 5)) (u1 (u1 σ 228 3 (σ.1 228 2)) 228 2 (((u1 σ 228 3 (σ.1 228 2)).1 228 2) + 1))) ∧ (¬ ((u1 σ 228 3 (σ.1 228 2)).1 229 ((u1 σ 228 3 (σ.1 228 2)).1 228 2).toNatClampNeg) = 44 → (((u1 σ 228 3 (σ.1 228 2)).1 229 ((u1 σ 228 3 (σ.1 228 2)).1 228 2).toNatClampNeg) = 59 → Q (some (.int 6)) (u1 (u1 σ 228 3 (σ.1 228 2)) 228 2 (((u1 σ 228 3 (σ.1 228 2)).1 228 2) + 1))) ∧ (¬ ((u1 σ 228 3 (σ.1 228 2)).1 229 ((u1 σ 228 3 (σ.1 228 2)).1 228 2).toNatClampNeg) = 59 → Q (some (.int 0)) (u1 (u1 σ 228 3 (σ.1 228 2)) 228 2 (((u1 σ 228 3 (σ.1 228 2)).1 228 2) + 1)))))))) ∧ (¬ ((u1 σ 228 3 (σ.1 228 2)).1 228 2) < ((u1 σ 228 3 (σ.1 228 2)).1 228 1) → Q (some (.int 1)) (u1 σ 228 3 (σ.1 228 2)))) ∧ (¬ (σ.1 228 1) ≤ (σ.1 228 2) → vp_in (σ.1 228 2) 160 ∧ (((σ.1 229 (σ.1 228 2).toNatClampNeg) = 32 → KX6_nextToken_0 N (u1 σ 228 2 ((σ.1 228 2) + 1)) Q) ∧ (¬ (σ.1 229 (σ.1 228 2).toNatClampNeg) = 32 → (((u1 σ 228 3 (σ.1 228 2)).1 228 2) < ((u1 σ 228 3 (σ.1 228 2)).1 228 1) → vp_in ((u1 σ 228 3 (σ.1 228 2)).1 228 2) 160 ∧ (((97 ≤ ((u1 σ 228 3 (σ.1 228 2)).1 229 ((u1 σ 228 3 (σ.1 228 2)).1 228 2).toNatClampNeg).toInt ∧ ((u1 σ 228 3 (σ.1 228 2)).1 229 ((u1 σ 228 3 (σ.1 228 2)).1 228 2).toNatClampNeg).toInt ≤ 122) → EvM (N + 9) mX6_takeName [.ref 228] (u1 σ 228 3 (σ.1 228 2)) (fun r9 σ3 => ∃ v3, r9 = some (.int v3) ∧ (Q (some (.int v3)) σ3))) ∧ (¬ (97 ≤ ((u1 σ 228 3 (σ.1 228 2)).1 229 ((u1 σ 228 3 (σ.1 228 2)).1 228 2).toNatClampNeg).toInt ∧ ((u1 σ 228 3 (σ.1 228 2)).1 229 ((u1 σ 228 3 (σ.1 228 2)).1 228 2).toNatClampNeg).toInt ≤ 122) → ((48 ≤ ((u1 σ 228 3 (σ.1 228 2)).1 229 ((u1 σ 228 3 (σ.1 228 2)).1 228 2).toNatClampNeg).toInt ∧ ((u1 σ 228 3 (σ.1 228 2)).1 229 ((u1 σ 228 3 (σ.1 228 2)).1 228 2).toNatClampNeg).toInt ≤ 57) → EvM (N + 9) mX6_takeNumber [.ref 228] (u1 σ 228 3 (σ.1 228 2)) (fun r9 σ4 => ∃ v4, r9 = some (.int v4) ∧ (Q (some (.int v4)) σ4))) ∧ (¬ (48 ≤ ((u1 σ 228 3 (σ.1 228 2)).1 229 ((u1 σ 228 3 (σ.1 228 2)).1 228 2).toNatClampNeg).toInt ∧ ((u1 σ 228 3 (σ.1 228 2)).1 229 ((u1 σ 228 3 (σ.1 228 2)).1 228 2).toNatClampNeg).toInt ≤ 57) → (((u1 σ 228 3 (σ.1 228 2)).1 229 ((u1 σ 228 3 (σ.1 228 2)).1 228 2).toNatClampNeg) = 44 → Q (some (.int 5)) (u1 (u1 σ 228 3 (σ.1 228 2)) 228 2 (((u1 σ 228 3 (σ.1 228 2)).1 228 2) + 1))) ∧ (¬ ((u1 σ 228 3 (σ.1 228 2)).1 229 ((u1 σ 228 3 (σ.1 228 2)).1 228 2).toNatClampNeg) = 44 → (((u1 σ 228 3 (σ.1 228 2)).1 229 ((u1 σ 228 3 (σ.1 228 2)).1 228 2).toNatClampNeg) = 59 → Q (some (.int 6)) (u1 (u1 σ 228 3 (σ.1 228 2)) 228 2 (((u1 σ 228 3 (σ.1 228 2)).1 228 2) + 1))) ∧ (¬ ((u1 σ 228 3 (σ.1 228 2)).1 229 ((u1 σ 228 3 (σ.1 228 2)).1 228 2).toNatClampNeg) = 59 → Q (some (.int 0)) (u1 (u1 σ 228 3 (σ.1 228 2)) 228 2 (((u1 σ 228 3 (σ.1 228 2)).1 228 2) + 1)))))))) ∧ (¬ ((u1 σ 228 3 (σ.1 228 2)).1 228 2) < ((u1 σ 228 3 (σ.1 228 2)).1 228 1) → Q (some (.int 1)) (u1 σ 228 3 (σ.1 228 2))))))) : EvM (N + 10) mX6_nextToken [.ref 228] σ Q := by
  refine ev_entry rfl (Nat.le_of_ble_eq_true rfl) (lv := [(0, .ref 228)]) rfl ?_
  refine ev_aload_n 0 dX6_nextToken_0 rfl ?_
  refine ev_get G6 lay_228 (k := 2) rfl (Nat.le_of_ble_eq_true rfl) dX6_nextToken_1 w_195 ?_
  refine ev_aload_n 0 dX6_nextToken_4 rfl ?_
  refine ev_get G6 lay_228 (k := 1) rfl (Nat.le_of_ble_eq_true rfl) dX6_nextToken_5 w_194 ?_
  refine ev_icmp_ge 38 dX6_nextToken_8 (by decide) (fun c9 => ?_) (fun c9 => ?_)
  · replace h := h.1 c9
    refine ev_aload_n 0 dX6_nextToken_38 rfl ?_
    refine ev_aload_n 0 dX6_nextToken_39 rfl ?_
    refine ev_get G6 lay_228 (k := 2) rfl (Nat.le_of_ble_eq_true rfl) dX6_nextToken_40 w_195 ?_
    refine ev_put G6 lay_228 (k := 3) rfl (Nat.le_of_ble_eq_true rfl) rfl (by decide +kernel) dX6_nextToken_43 w_196 ?_
    refine ev_aload_n 0 dX6_nextToken_46 rfl ?_
    refine ev_get G6 lay_228 (k := 2) rfl (Nat.le_of_ble_eq_true rfl) dX6_nextToken_47 w_195 ?_
    refine ev_aload_n 0 dX6_nextToken_50 rfl ?_
    refine ev_get G6 lay_228 (k := 1) rfl (Nat.le_of_ble_eq_true rfl) dX6_nextToken_51 w_194 ?_
    refine ev_icmp_lt 59 dX6_nextToken_54 (by decide) (fun c9 => ?_) (fun c9 => ?_)
    · replace h := h.1 c9
      refine ev_aload_n 0 dX6_nextToken_59 rfl ?_
      refine ev_getR (r := 229) G6 lay_228 (k := 0) rfl (Nat.le_of_ble_eq_true rfl) dX6_nextToken_60 w_193 ?_
      refine ev_aload_n 0 dX6_nextToken_63 rfl ?_
      refine ev_get G6 lay_228 (k := 2) rfl (Nat.le_of_ble_eq_true rfl) dX6_nextToken_64 w_195 ?_
      have hb67 := h.1
      replace h := h.2
      refine ev_bald lay_229 (Nat.le_of_ble_eq_true rfl) hb67 dX6_nextToken_67 ?_
      refine ev_istore_n (lv' := [(1, .int ((u1 σ 228 3 (σ.1 228 2)).1 229 ((u1 σ 228 3 (σ.1 228 2)).1 228 2).toNatClampNeg)), (0, .ref 228)]) dX6_nextToken_68 (Nat.le_of_ble_eq_true rfl) rfl ?_
      refine ev_iload_n 0 dX6_nextToken_69 rfl ?_
      refine ev_callS (M' := mX6_isLetter) [.int ((u1 σ 228 3 (σ.1 228 2)).1 229 ((u1 σ 228 3 (σ.1 228 2)).1 228 2).toNatClampNeg)] vX6_isLetter dX6_nextToken_70 w_999 rfl rfl (Nat.le_of_ble_eq_true rfl) (C6_isLetter (Q := fun r9 s9 => u1 σ 228 3 (σ.1 228 2) = s9 ∧ ((r9 = some (.int 1) ∧ (97 ≤ ((u1 σ 228 3 (σ.1 228 2)).1 229 ((u1 σ 228 3 (σ.1 228 2)).1 228 2).toNatClampNeg).toInt ∧ ((u1 σ 228 3 (σ.1 228 2)).1 229 ((u1 σ 228 3 (σ.1 228 2)).1 228 2).toNatClampNeg).toInt ≤ 122)) ∨ (r9 = some (.int 0) ∧ ¬ (97 ≤ ((u1 σ 228 3 (σ.1 228 2)).1 229 ((u1 σ 228 3 (σ.1 228 2)).1 228 2).toNatClampNeg).toInt ∧ ((u1 σ 228 3 (σ.1 228 2)).1 229 ((u1 σ 228 3 (σ.1 228 2)).1 228 2).toNatClampNeg).toInt ≤ 122)))) ⟨fun c9 => ⟨rfl, Or.inl ⟨rfl, c9⟩⟩, fun c9 => ⟨rfl, Or.inr ⟨rfl, c9⟩⟩⟩) ?_
      rintro r9 s9 ⟨rfl, ⟨rfl, c9⟩ | ⟨rfl, c9⟩⟩
      · replace h := h.1 c9
        refine ev_if_eq 81 dX6_nextToken_73 (by decide) (fun c9 => ?_) (fun c9 => ?_)
        · exact absurd c9 (by decide)
        · refine ev_aload_n 1 dX6_nextToken_76 rfl ?_
          refine ev_callV (M' := mX6_takeName) [] vX6_takeName G6 lay_228 dX6_nextToken_77 w_1002 rfl rfl (Nat.le_of_ble_eq_true rfl) h ?_
          rintro r9 σ1 ⟨v1, rfl, h⟩
          exact ev_iret rfl dX6_nextToken_80 h
      · replace h := h.2 c9
        refine ev_if_eq 81 dX6_nextToken_73 (by decide) (fun c9 => ?_) (fun c9 => ?_)
        · refine ev_iload_n 0 dX6_nextToken_81 rfl ?_
          refine ev_callS (M' := mX6_isFigure) [.int ((u1 σ 228 3 (σ.1 228 2)).1 229 ((u1 σ 228 3 (σ.1 228 2)).1 228 2).toNatClampNeg)] vX6_isFigure dX6_nextToken_82 w_1067 rfl rfl (Nat.le_of_ble_eq_true rfl) (C6_isFigure (Q := fun r9 s9 => u1 σ 228 3 (σ.1 228 2) = s9 ∧ ((r9 = some (.int 1) ∧ (48 ≤ ((u1 σ 228 3 (σ.1 228 2)).1 229 ((u1 σ 228 3 (σ.1 228 2)).1 228 2).toNatClampNeg).toInt ∧ ((u1 σ 228 3 (σ.1 228 2)).1 229 ((u1 σ 228 3 (σ.1 228 2)).1 228 2).toNatClampNeg).toInt ≤ 57)) ∨ (r9 = some (.int 0) ∧ ¬ (48 ≤ ((u1 σ 228 3 (σ.1 228 2)).1 229 ((u1 σ 228 3 (σ.1 228 2)).1 228 2).toNatClampNeg).toInt ∧ ((u1 σ 228 3 (σ.1 228 2)).1 229 ((u1 σ 228 3 (σ.1 228 2)).1 228 2).toNatClampNeg).toInt ≤ 57)))) ⟨fun c9 => ⟨rfl, Or.inl ⟨rfl, c9⟩⟩, fun c9 => ⟨rfl, Or.inr ⟨rfl, c9⟩⟩⟩) ?_
          rintro r9 s9 ⟨rfl, ⟨rfl, c9⟩ | ⟨rfl, c9⟩⟩
          · replace h := h.1 c9
            refine ev_if_eq 93 dX6_nextToken_85 (by decide) (fun c9 => ?_) (fun c9 => ?_)
            · exact absurd c9 (by decide)
            · refine ev_aload_n 1 dX6_nextToken_88 rfl ?_
              refine ev_callV (M' := mX6_takeNumber) [] vX6_takeNumber G6 lay_228 dX6_nextToken_89 w_1070 rfl rfl (Nat.le_of_ble_eq_true rfl) h ?_
              rintro r9 σ2 ⟨v2, rfl, h⟩
              exact ev_iret rfl dX6_nextToken_92 h
          · replace h := h.2 c9
            refine ev_if_eq 93 dX6_nextToken_85 (by decide) (fun c9 => ?_) (fun c9 => ?_)
            · refine ev_aload_n 1 dX6_nextToken_93 rfl ?_
              refine ev_dup dX6_nextToken_94 rfl ?_
              refine ev_get G6 lay_228 (k := 2) rfl (Nat.le_of_ble_eq_true rfl) dX6_nextToken_95 w_195 ?_
              refine ev_iconst 1 dX6_nextToken_98 (by decide) ?_
              refine ev_iadd dX6_nextToken_99 ?_
              refine ev_put G6 lay_228 (k := 2) rfl (Nat.le_of_ble_eq_true rfl) rfl (by decide +kernel) dX6_nextToken_100 w_195 ?_
              refine ev_iload_n 0 dX6_nextToken_103 rfl ?_
              refine ev_bipush 44 dX6_nextToken_104 (by decide) ?_
              refine ev_icmp_ne 111 dX6_nextToken_106 (by decide) (fun c9 => ?_) (fun c9 => ?_)
              · replace h := h.2 c9
                refine ev_iload_n 0 dX6_nextToken_111 rfl ?_
                refine ev_bipush 59 dX6_nextToken_112 (by decide) ?_
                refine ev_icmp_ne 122 dX6_nextToken_114 (by decide) (fun c9 => ?_) (fun c9 => ?_)
                · replace h := h.2 c9
                  refine ev_iconst 0 dX6_nextToken_122 (by decide) ?_
                  exact ev_iret rfl dX6_nextToken_123 h
                · replace h := h.1 c9
                  refine ev_bipush 6 dX6_nextToken_117 (by decide) ?_
                  refine ev_goto 123 dX6_nextToken_119 (by decide) ?_
                  exact ev_iret rfl dX6_nextToken_123 h
              · replace h := h.1 c9
                refine ev_iconst 5 dX6_nextToken_109 (by decide) ?_
                exact ev_iret rfl dX6_nextToken_110 h
            · exact absurd c9 (by decide)
        · exact absurd c9 (by decide)
    · replace h := h.2 c9
      refine ev_iconst 1 dX6_nextToken_57 (by decide) ?_
      exact ev_iret rfl dX6_nextToken_58 h
  · replace h := h.2 c9
    refine ev_aload_n 0 dX6_nextToken_11 rfl ?_
    refine ev_getR (r := 229) G6 lay_228 (k := 0) rfl (Nat.le_of_ble_eq_true rfl) dX6_nextToken_12 w_193 ?_
    refine ev_aload_n 0 dX6_nextToken_15 rfl ?_
    refine ev_get G6 lay_228 (k := 2) rfl (Nat.le_of_ble_eq_true rfl) dX6_nextToken_16 w_195 ?_
    have hb19 := h.1
    replace h := h.2
    refine ev_bald lay_229 (Nat.le_of_ble_eq_true rfl) hb19 dX6_nextToken_19 ?_
    refine ev_bipush 32 dX6_nextToken_20 (by decide) ?_
    refine ev_icmp_ne 38 dX6_nextToken_22 (by decide) (fun c9 => ?_) (fun c9 => ?_)
    · replace h := h.2 c9
      refine ev_aload_n 0 dX6_nextToken_38 rfl ?_
      refine ev_aload_n 0 dX6_nextToken_39 rfl ?_
      refine ev_get G6 lay_228 (k := 2) rfl (Nat.le_of_ble_eq_true rfl) dX6_nextToken_40 w_195 ?_
      refine ev_put G6 lay_228 (k := 3) rfl (Nat.le_of_ble_eq_true rfl) rfl (by decide +kernel) dX6_nextToken_43 w_196 ?_
      refine ev_aload_n 0 dX6_nextToken_46 rfl ?_
      refine ev_get G6 lay_228 (k := 2) rfl (Nat.le_of_ble_eq_true rfl) dX6_nextToken_47 w_195 ?_
      refine ev_aload_n 0 dX6_nextToken_50 rfl ?_
      refine ev_get G6 lay_228 (k := 1) rfl (Nat.le_of_ble_eq_true rfl) dX6_nextToken_51 w_194 ?_
      refine ev_icmp_lt 59 dX6_nextToken_54 (by decide) (fun c9 => ?_) (fun c9 => ?_)
      · replace h := h.1 c9
        refine ev_aload_n 0 dX6_nextToken_59 rfl ?_
        refine ev_getR (r := 229) G6 lay_228 (k := 0) rfl (Nat.le_of_ble_eq_true rfl) dX6_nextToken_60 w_193 ?_
        refine ev_aload_n 0 dX6_nextToken_63 rfl ?_
        refine ev_get G6 lay_228 (k := 2) rfl (Nat.le_of_ble_eq_true rfl) dX6_nextToken_64 w_195 ?_
        have hb67 := h.1
        replace h := h.2
        refine ev_bald lay_229 (Nat.le_of_ble_eq_true rfl) hb67 dX6_nextToken_67 ?_
        refine ev_istore_n (lv' := [(1, .int ((u1 σ 228 3 (σ.1 228 2)).1 229 ((u1 σ 228 3 (σ.1 228 2)).1 228 2).toNatClampNeg)), (0, .ref 228)]) dX6_nextToken_68 (Nat.le_of_ble_eq_true rfl) rfl ?_
        refine ev_iload_n 0 dX6_nextToken_69 rfl ?_
        refine ev_callS (M' := mX6_isLetter) [.int ((u1 σ 228 3 (σ.1 228 2)).1 229 ((u1 σ 228 3 (σ.1 228 2)).1 228 2).toNatClampNeg)] vX6_isLetter dX6_nextToken_70 w_999 rfl rfl (Nat.le_of_ble_eq_true rfl) (C6_isLetter (Q := fun r9 s9 => u1 σ 228 3 (σ.1 228 2) = s9 ∧ ((r9 = some (.int 1) ∧ (97 ≤ ((u1 σ 228 3 (σ.1 228 2)).1 229 ((u1 σ 228 3 (σ.1 228 2)).1 228 2).toNatClampNeg).toInt ∧ ((u1 σ 228 3 (σ.1 228 2)).1 229 ((u1 σ 228 3 (σ.1 228 2)).1 228 2).toNatClampNeg).toInt ≤ 122)) ∨ (r9 = some (.int 0) ∧ ¬ (97 ≤ ((u1 σ 228 3 (σ.1 228 2)).1 229 ((u1 σ 228 3 (σ.1 228 2)).1 228 2).toNatClampNeg).toInt ∧ ((u1 σ 228 3 (σ.1 228 2)).1 229 ((u1 σ 228 3 (σ.1 228 2)).1 228 2).toNatClampNeg).toInt ≤ 122)))) ⟨fun c9 => ⟨rfl, Or.inl ⟨rfl, c9⟩⟩, fun c9 => ⟨rfl, Or.inr ⟨rfl, c9⟩⟩⟩) ?_
        rintro r9 s9 ⟨rfl, ⟨rfl, c9⟩ | ⟨rfl, c9⟩⟩
        · replace h := h.1 c9
          refine ev_if_eq 81 dX6_nextToken_73 (by decide) (fun c9 => ?_) (fun c9 => ?_)
          · exact absurd c9 (by decide)
          · refine ev_aload_n 1 dX6_nextToken_76 rfl ?_
            refine ev_callV (M' := mX6_takeName) [] vX6_takeName G6 lay_228 dX6_nextToken_77 w_1002 rfl rfl (Nat.le_of_ble_eq_true rfl) h ?_
            rintro r9 σ3 ⟨v3, rfl, h⟩
            exact ev_iret rfl dX6_nextToken_80 h
        · replace h := h.2 c9
          refine ev_if_eq 81 dX6_nextToken_73 (by decide) (fun c9 => ?_) (fun c9 => ?_)
          · refine ev_iload_n 0 dX6_nextToken_81 rfl ?_
            refine ev_callS (M' := mX6_isFigure) [.int ((u1 σ 228 3 (σ.1 228 2)).1 229 ((u1 σ 228 3 (σ.1 228 2)).1 228 2).toNatClampNeg)] vX6_isFigure dX6_nextToken_82 w_1067 rfl rfl (Nat.le_of_ble_eq_true rfl) (C6_isFigure (Q := fun r9 s9 => u1 σ 228 3 (σ.1 228 2) = s9 ∧ ((r9 = some (.int 1) ∧ (48 ≤ ((u1 σ 228 3 (σ.1 228 2)).1 229 ((u1 σ 228 3 (σ.1 228 2)).1 228 2).toNatClampNeg).toInt ∧ ((u1 σ 228 3 (σ.1 228 2)).1 229 ((u1 σ 228 3 (σ.1 228 2)).1 228 2).toNatClampNeg).toInt ≤ 57)) ∨ (r9 = some (.int 0) ∧ ¬ (48 ≤ ((u1 σ 228 3 (σ.1 228 2)).1 229 ((u1 σ 228 3 (σ.1 228 2)).1 228 2).toNatClampNeg).toInt ∧ ((u1 σ 228 3 (σ.1 228 2)).1 229 ((u1 σ 228 3 (σ.1 228 2)).1 228 2).toNatClampNeg).toInt ≤ 57)))) ⟨fun c9 => ⟨rfl, Or.inl ⟨rfl, c9⟩⟩, fun c9 => ⟨rfl, Or.inr ⟨rfl, c9⟩⟩⟩) ?_
            rintro r9 s9 ⟨rfl, ⟨rfl, c9⟩ | ⟨rfl, c9⟩⟩
            · replace h := h.1 c9
              refine ev_if_eq 93 dX6_nextToken_85 (by decide) (fun c9 => ?_) (fun c9 => ?_)
              · exact absurd c9 (by decide)
              · refine ev_aload_n 1 dX6_nextToken_88 rfl ?_
                refine ev_callV (M' := mX6_takeNumber) [] vX6_takeNumber G6 lay_228 dX6_nextToken_89 w_1070 rfl rfl (Nat.le_of_ble_eq_true rfl) h ?_
                rintro r9 σ4 ⟨v4, rfl, h⟩
                exact ev_iret rfl dX6_nextToken_92 h
            · replace h := h.2 c9
              refine ev_if_eq 93 dX6_nextToken_85 (by decide) (fun c9 => ?_) (fun c9 => ?_)
              · refine ev_aload_n 1 dX6_nextToken_93 rfl ?_
                refine ev_dup dX6_nextToken_94 rfl ?_
                refine ev_get G6 lay_228 (k := 2) rfl (Nat.le_of_ble_eq_true rfl) dX6_nextToken_95 w_195 ?_
                refine ev_iconst 1 dX6_nextToken_98 (by decide) ?_
                refine ev_iadd dX6_nextToken_99 ?_
                refine ev_put G6 lay_228 (k := 2) rfl (Nat.le_of_ble_eq_true rfl) rfl (by decide +kernel) dX6_nextToken_100 w_195 ?_
                refine ev_iload_n 0 dX6_nextToken_103 rfl ?_
                refine ev_bipush 44 dX6_nextToken_104 (by decide) ?_
                refine ev_icmp_ne 111 dX6_nextToken_106 (by decide) (fun c9 => ?_) (fun c9 => ?_)
                · replace h := h.2 c9
                  refine ev_iload_n 0 dX6_nextToken_111 rfl ?_
                  refine ev_bipush 59 dX6_nextToken_112 (by decide) ?_
                  refine ev_icmp_ne 122 dX6_nextToken_114 (by decide) (fun c9 => ?_) (fun c9 => ?_)
                  · replace h := h.2 c9
                    refine ev_iconst 0 dX6_nextToken_122 (by decide) ?_
                    exact ev_iret rfl dX6_nextToken_123 h
                  · replace h := h.1 c9
                    refine ev_bipush 6 dX6_nextToken_117 (by decide) ?_
                    refine ev_goto 123 dX6_nextToken_119 (by decide) ?_
                    exact ev_iret rfl dX6_nextToken_123 h
                · replace h := h.1 c9
                  refine ev_iconst 5 dX6_nextToken_109 (by decide) ?_
                  exact ev_iret rfl dX6_nextToken_110 h
              · exact absurd c9 (by decide)
          · exact absurd c9 (by decide)
      · replace h := h.2 c9
        refine ev_iconst 1 dX6_nextToken_57 (by decide) ?_
        exact ev_iret rfl dX6_nextToken_58 h
    · replace h := h.1 c9
      refine ev_aload_n 0 dX6_nextToken_25 rfl ?_
      refine ev_dup dX6_nextToken_26 rfl ?_
      refine ev_get G6 lay_228 (k := 2) rfl (Nat.le_of_ble_eq_true rfl) dX6_nextToken_27 w_195 ?_
      refine ev_iconst 1 dX6_nextToken_30 (by decide) ?_
      refine ev_iadd dX6_nextToken_31 ?_
      refine ev_put G6 lay_228 (k := 2) rfl (Nat.le_of_ble_eq_true rfl) rfl (by decide +kernel) dX6_nextToken_32 w_195 ?_
      refine ev_goto 0 dX6_nextToken_35 (by decide) ?_
      refine ev_sub [0] rfl ?_
      exact h
theorem BX6_nextToken_0 {N : Nat} {σ : Sg} {Q : Option Value → Sg → Prop} (h : ((σ.1 228 1) ≤ (σ.1 228 2) → (((u1 σ 228 3 (σ.1 228 2)).1 228 2) < ((u1 σ 228 3 (σ.1 228 2)).1 228 1) → vp_in ((u1 σ 228 3 (σ.1 228 2)).1 228 2) 160 ∧ (((97 ≤ ((u1 σ 228 3 (σ.1 228 2)).1 229 ((u1 σ 228 3 (σ.1 228 2)).1 228 2).toNatClampNeg).toInt ∧ ((u1 σ 228 3 (σ.1 228 2)).1 229 ((u1 σ 228 3 (σ.1 228 2)).1 228 2).toNatClampNeg).toInt ≤ 122) → EvM (N + 9) mX6_takeName [.ref 228] (u1 σ 228 3 (σ.1 228 2)) (fun r9 σ5 => ∃ v5, r9 = some (.int v5) ∧ (Q (some (.int v5)) σ5))) ∧ (¬ (97 ≤ ((u1 σ 228 3 (σ.1 228 2)).1 229 ((u1 σ 228 3 (σ.1 228 2)).1 228 2).toNatClampNeg).toInt ∧ ((u1 σ 228 3 (σ.1 228 2)).1 229 ((u1 σ 228 3 (σ.1 228 2)).1 228 2).toNatClampNeg).toInt ≤ 122) → ((48 ≤ ((u1 σ 228 3 (σ.1 228 2)).1 229 ((u1 σ 228 3 (σ.1 228 2)).1 228 2).toNatClampNeg).toInt ∧ ((u1 σ 228 3 (σ.1 228 2)).1 229 ((u1 σ 228 3 (σ.1 228 2)).1 228 2).toNatClampNeg).toInt ≤ 57) → EvM (N + 9) mX6_takeNumber [.ref 228] (u1 σ 228 3 (σ.1 228 2)) (fun r9 σ6 => ∃ v6, r9 = some (.int v6) ∧ (Q (some (.int v6)) σ6))) ∧ (¬ (48 ≤ ((u1 σ 228 3 (σ.1 228 2)).1 229 ((u1 σ 228 3 (σ.1 228 2)).1 228 2).toNatClampNeg).toInt ∧ ((u1 σ 228 3 (σ.1 228 2)).1 229 ((u1 σ 228 3 (σ.1 228 2)).1 228 2).toNatClampNeg).toInt ≤ 57) → (((u1 σ 228 3 (σ.1 228 2)).1 229 ((u1 σ 228 3 (σ.1 228 2)).1 228 2).toNatClampNeg) = 44 → Q (some (.int 5)) (u1 (u1 σ 228 3 (σ.1 228 2)) 228 2 (((u1 σ 228 3 (σ.1 228 2)).1 228 2) + 1))) ∧ (¬ ((u1 σ 228 3 (σ.1 228 2)).1 229 ((u1 σ 228 3 (σ.1 228 2)).1 228 2).toNatClampNeg) = 44 → (((u1 σ 228 3 (σ.1 228 2)).1 229 ((u1 σ 228 3 (σ.1 228 2)).1 228 2).toNatClampNeg) = 59 → Q (some (.int 6)) (u1 (u1 σ 228 3 (σ.1 228 2)) 228 2 (((u1 σ 228 3 (σ.1 228 2)).1 228 2) + 1))) ∧ (¬ ((u1 σ 228 3 (σ.1 228 2)).1 229 ((u1 σ 228 3 (σ.1 228 2)).1 228 2).toNatClampNeg) = 59 → Q (some (.int 0)) (u1 (u1 σ 228 3 (σ.1 228 2)) 228 2 (((u1 σ 228 3 (σ.1 228 2)).1 228 2) + 1)))))))) ∧ (¬ ((u1 σ 228 3 (σ.1 228 2)).1 228 2) < ((u1 σ 228 3 (σ.1 228 2)).1 228 1) → Q (some (.int 1)) (u1 σ 228 3 (σ.1 228 2)))) ∧ (¬ (σ.1 228 1) ≤ (σ.1 228 2) → vp_in (σ.1 228 2) 160 ∧ (((σ.1 229 (σ.1 228 2).toNatClampNeg) = 32 → KX6_nextToken_0 N (u1 σ 228 2 ((σ.1 228 2) + 1)) Q) ∧ (¬ (σ.1 229 (σ.1 228 2).toNatClampNeg) = 32 → (((u1 σ 228 3 (σ.1 228 2)).1 228 2) < ((u1 σ 228 3 (σ.1 228 2)).1 228 1) → vp_in ((u1 σ 228 3 (σ.1 228 2)).1 228 2) 160 ∧ (((97 ≤ ((u1 σ 228 3 (σ.1 228 2)).1 229 ((u1 σ 228 3 (σ.1 228 2)).1 228 2).toNatClampNeg).toInt ∧ ((u1 σ 228 3 (σ.1 228 2)).1 229 ((u1 σ 228 3 (σ.1 228 2)).1 228 2).toNatClampNeg).toInt ≤ 122) → EvM (N + 9) mX6_takeName [.ref 228] (u1 σ 228 3 (σ.1 228 2)) (fun r9 σ7 => ∃ v7, r9 = some (.int v7) ∧ (Q (some (.int v7)) σ7))) ∧ (¬ (97 ≤ ((u1 σ 228 3 (σ.1 228 2)).1 229 ((u1 σ 228 3 (σ.1 228 2)).1 228 2).toNatClampNeg).toInt ∧ ((u1 σ 228 3 (σ.1 228 2)).1 229 ((u1 σ 228 3 (σ.1 228 2)).1 228 2).toNatClampNeg).toInt ≤ 122) → ((48 ≤ ((u1 σ 228 3 (σ.1 228 2)).1 229 ((u1 σ 228 3 (σ.1 228 2)).1 228 2).toNatClampNeg).toInt ∧ ((u1 σ 228 3 (σ.1 228 2)).1 229 ((u1 σ 228 3 (σ.1 228 2)).1 228 2).toNatClampNeg).toInt ≤ 57) → EvM (N + 9) mX6_takeNumber [.ref 228] (u1 σ 228 3 (σ.1 228 2)) (fun r9 σ8 => ∃ v8, r9 = some (.int v8) ∧ (Q (some (.int v8)) σ8))) ∧ (¬ (48 ≤ ((u1 σ 228 3 (σ.1 228 2)).1 229 ((u1 σ 228 3 (σ.1 228 2)).1 228 2).toNatClampNeg).toInt ∧ ((u1 σ 228 3 (σ.1 228 2)).1 229 ((u1 σ 228 3 (σ.1 228 2)).1 228 2).toNatClampNeg).toInt ≤ 57) → (((u1 σ 228 3 (σ.1 228 2)).1 229 ((u1 σ 228 3 (σ.1 228 2)).1 228 2).toNatClampNeg) = 44 → Q (some (.int 5)) (u1 (u1 σ 228 3 (σ.1 228 2)) 228 2 (((u1 σ 228 3 (σ.1 228 2)).1 228 2) + 1))) ∧ (¬ ((u1 σ 228 3 (σ.1 228 2)).1 229 ((u1 σ 228 3 (σ.1 228 2)).1 228 2).toNatClampNeg) = 44 → (((u1 σ 228 3 (σ.1 228 2)).1 229 ((u1 σ 228 3 (σ.1 228 2)).1 228 2).toNatClampNeg) = 59 → Q (some (.int 6)) (u1 (u1 σ 228 3 (σ.1 228 2)) 228 2 (((u1 σ 228 3 (σ.1 228 2)).1 228 2) + 1))) ∧ (¬ ((u1 σ 228 3 (σ.1 228 2)).1 229 ((u1 σ 228 3 (σ.1 228 2)).1 228 2).toNatClampNeg) = 59 → Q (some (.int 0)) (u1 (u1 σ 228 3 (σ.1 228 2)) 228 2 (((u1 σ 228 3 (σ.1 228 2)).1 228 2) + 1)))))))) ∧ (¬ ((u1 σ 228 3 (σ.1 228 2)).1 228 2) < ((u1 σ 228 3 (σ.1 228 2)).1 228 1) → Q (some (.int 1)) (u1 σ 228 3 (σ.1 228 2))))))) : KX6_nextToken_0 N σ Q := by
  refine ev_aload_n 0 dX6_nextToken_0 rfl ?_
  refine ev_get G6 lay_228 (k := 2) rfl (Nat.le_of_ble_eq_true rfl) dX6_nextToken_1 w_195 ?_
  refine ev_aload_n 0 dX6_nextToken_4 rfl ?_
  refine ev_get G6 lay_228 (k := 1) rfl (Nat.le_of_ble_eq_true rfl) dX6_nextToken_5 w_194 ?_
  refine ev_icmp_ge 38 dX6_nextToken_8 (by decide) (fun c9 => ?_) (fun c9 => ?_)
  · replace h := h.1 c9
    refine ev_aload_n 0 dX6_nextToken_38 rfl ?_
    refine ev_aload_n 0 dX6_nextToken_39 rfl ?_
    refine ev_get G6 lay_228 (k := 2) rfl (Nat.le_of_ble_eq_true rfl) dX6_nextToken_40 w_195 ?_
    refine ev_put G6 lay_228 (k := 3) rfl (Nat.le_of_ble_eq_true rfl) rfl (by decide +kernel) dX6_nextToken_43 w_196 ?_
    refine ev_aload_n 0 dX6_nextToken_46 rfl ?_
    refine ev_get G6 lay_228 (k := 2) rfl (Nat.le_of_ble_eq_true rfl) dX6_nextToken_47 w_195 ?_
    refine ev_aload_n 0 dX6_nextToken_50 rfl ?_
    refine ev_get G6 lay_228 (k := 1) rfl (Nat.le_of_ble_eq_true rfl) dX6_nextToken_51 w_194 ?_
    refine ev_icmp_lt 59 dX6_nextToken_54 (by decide) (fun c9 => ?_) (fun c9 => ?_)
    · replace h := h.1 c9
      refine ev_aload_n 0 dX6_nextToken_59 rfl ?_
      refine ev_getR (r := 229) G6 lay_228 (k := 0) rfl (Nat.le_of_ble_eq_true rfl) dX6_nextToken_60 w_193 ?_
      refine ev_aload_n 0 dX6_nextToken_63 rfl ?_
      refine ev_get G6 lay_228 (k := 2) rfl (Nat.le_of_ble_eq_true rfl) dX6_nextToken_64 w_195 ?_
      have hb67 := h.1
      replace h := h.2
      refine ev_bald lay_229 (Nat.le_of_ble_eq_true rfl) hb67 dX6_nextToken_67 ?_
      refine ev_istore_n (lv' := [(1, .int ((u1 σ 228 3 (σ.1 228 2)).1 229 ((u1 σ 228 3 (σ.1 228 2)).1 228 2).toNatClampNeg)), (0, .ref 228)]) dX6_nextToken_68 (Nat.le_of_ble_eq_true rfl) rfl ?_
      refine ev_iload_n 0 dX6_nextToken_69 rfl ?_
      refine ev_callS (M' := mX6_isLetter) [.int ((u1 σ 228 3 (σ.1 228 2)).1 229 ((u1 σ 228 3 (σ.1 228 2)).1 228 2).toNatClampNeg)] vX6_isLetter dX6_nextToken_70 w_999 rfl rfl (Nat.le_of_ble_eq_true rfl) (C6_isLetter (Q := fun r9 s9 => u1 σ 228 3 (σ.1 228 2) = s9 ∧ ((r9 = some (.int 1) ∧ (97 ≤ ((u1 σ 228 3 (σ.1 228 2)).1 229 ((u1 σ 228 3 (σ.1 228 2)).1 228 2).toNatClampNeg).toInt ∧ ((u1 σ 228 3 (σ.1 228 2)).1 229 ((u1 σ 228 3 (σ.1 228 2)).1 228 2).toNatClampNeg).toInt ≤ 122)) ∨ (r9 = some (.int 0) ∧ ¬ (97 ≤ ((u1 σ 228 3 (σ.1 228 2)).1 229 ((u1 σ 228 3 (σ.1 228 2)).1 228 2).toNatClampNeg).toInt ∧ ((u1 σ 228 3 (σ.1 228 2)).1 229 ((u1 σ 228 3 (σ.1 228 2)).1 228 2).toNatClampNeg).toInt ≤ 122)))) ⟨fun c9 => ⟨rfl, Or.inl ⟨rfl, c9⟩⟩, fun c9 => ⟨rfl, Or.inr ⟨rfl, c9⟩⟩⟩) ?_
      rintro r9 s9 ⟨rfl, ⟨rfl, c9⟩ | ⟨rfl, c9⟩⟩
      · replace h := h.1 c9
        refine ev_if_eq 81 dX6_nextToken_73 (by decide) (fun c9 => ?_) (fun c9 => ?_)
        · exact absurd c9 (by decide)
        · refine ev_aload_n 1 dX6_nextToken_76 rfl ?_
          refine ev_callV (M' := mX6_takeName) [] vX6_takeName G6 lay_228 dX6_nextToken_77 w_1002 rfl rfl (Nat.le_of_ble_eq_true rfl) h ?_
          rintro r9 σ5 ⟨v5, rfl, h⟩
          exact ev_iret rfl dX6_nextToken_80 h
      · replace h := h.2 c9
        refine ev_if_eq 81 dX6_nextToken_73 (by decide) (fun c9 => ?_) (fun c9 => ?_)
        · refine ev_iload_n 0 dX6_nextToken_81 rfl ?_
          refine ev_callS (M' := mX6_isFigure) [.int ((u1 σ 228 3 (σ.1 228 2)).1 229 ((u1 σ 228 3 (σ.1 228 2)).1 228 2).toNatClampNeg)] vX6_isFigure dX6_nextToken_82 w_1067 rfl rfl (Nat.le_of_ble_eq_true rfl) (C6_isFigure (Q := fun r9 s9 => u1 σ 228 3 (σ.1 228 2) = s9 ∧ ((r9 = some (.int 1) ∧ (48 ≤ ((u1 σ 228 3 (σ.1 228 2)).1 229 ((u1 σ 228 3 (σ.1 228 2)).1 228 2).toNatClampNeg).toInt ∧ ((u1 σ 228 3 (σ.1 228 2)).1 229 ((u1 σ 228 3 (σ.1 228 2)).1 228 2).toNatClampNeg).toInt ≤ 57)) ∨ (r9 = some (.int 0) ∧ ¬ (48 ≤ ((u1 σ 228 3 (σ.1 228 2)).1 229 ((u1 σ 228 3 (σ.1 228 2)).1 228 2).toNatClampNeg).toInt ∧ ((u1 σ 228 3 (σ.1 228 2)).1 229 ((u1 σ 228 3 (σ.1 228 2)).1 228 2).toNatClampNeg).toInt ≤ 57)))) ⟨fun c9 => ⟨rfl, Or.inl ⟨rfl, c9⟩⟩, fun c9 => ⟨rfl, Or.inr ⟨rfl, c9⟩⟩⟩) ?_
          rintro r9 s9 ⟨rfl, ⟨rfl, c9⟩ | ⟨rfl, c9⟩⟩
          · replace h := h.1 c9
            refine ev_if_eq 93 dX6_nextToken_85 (by decide) (fun c9 => ?_) (fun c9 => ?_)
            · exact absurd c9 (by decide)
            · refine ev_aload_n 1 dX6_nextToken_88 rfl ?_
              refine ev_callV (M' := mX6_takeNumber) [] vX6_takeNumber G6 lay_228 dX6_nextToken_89 w_1070 rfl rfl (Nat.le_of_ble_eq_true rfl) h ?_
              rintro r9 σ6 ⟨v6, rfl, h⟩
              exact ev_iret rfl dX6_nextToken_92 h
          · replace h := h.2 c9
            refine ev_if_eq 93 dX6_nextToken_85 (by decide) (fun c9 => ?_) (fun c9 => ?_)
            · refine ev_aload_n 1 dX6_nextToken_93 rfl ?_
              refine ev_dup dX6_nextToken_94 rfl ?_
              refine ev_get G6 lay_228 (k := 2) rfl (Nat.le_of_ble_eq_true rfl) dX6_nextToken_95 w_195 ?_
              refine ev_iconst 1 dX6_nextToken_98 (by decide) ?_
              refine ev_iadd dX6_nextToken_99 ?_
              refine ev_put G6 lay_228 (k := 2) rfl (Nat.le_of_ble_eq_true rfl) rfl (by decide +kernel) dX6_nextToken_100 w_195 ?_
              refine ev_iload_n 0 dX6_nextToken_103 rfl ?_
              refine ev_bipush 44 dX6_nextToken_104 (by decide) ?_
              refine ev_icmp_ne 111 dX6_nextToken_106 (by decide) (fun c9 => ?_) (fun c9 => ?_)
              · replace h := h.2 c9
                refine ev_iload_n 0 dX6_nextToken_111 rfl ?_
                refine ev_bipush 59 dX6_nextToken_112 (by decide) ?_
                refine ev_icmp_ne 122 dX6_nextToken_114 (by decide) (fun c9 => ?_) (fun c9 => ?_)
                · replace h := h.2 c9
                  refine ev_iconst 0 dX6_nextToken_122 (by decide) ?_
                  exact ev_iret rfl dX6_nextToken_123 h
                · replace h := h.1 c9
                  refine ev_bipush 6 dX6_nextToken_117 (by decide) ?_
                  refine ev_goto 123 dX6_nextToken_119 (by decide) ?_
                  exact ev_iret rfl dX6_nextToken_123 h
              · replace h := h.1 c9
                refine ev_iconst 5 dX6_nextToken_109 (by decide) ?_
                exact ev_iret rfl dX6_nextToken_110 h
            · exact absurd c9 (by decide)
        · exact absurd c9 (by decide)
    · replace h := h.2 c9
      refine ev_iconst 1 dX6_nextToken_57 (by decide) ?_
      exact ev_iret rfl dX6_nextToken_58 h
  · replace h := h.2 c9
    refine ev_aload_n 0 dX6_nextToken_11 rfl ?_
    refine ev_getR (r := 229) G6 lay_228 (k := 0) rfl (Nat.le_of_ble_eq_true rfl) dX6_nextToken_12 w_193 ?_
    refine ev_aload_n 0 dX6_nextToken_15 rfl ?_
    refine ev_get G6 lay_228 (k := 2) rfl (Nat.le_of_ble_eq_true rfl) dX6_nextToken_16 w_195 ?_
    have hb19 := h.1
    replace h := h.2
    refine ev_bald lay_229 (Nat.le_of_ble_eq_true rfl) hb19 dX6_nextToken_19 ?_
    refine ev_bipush 32 dX6_nextToken_20 (by decide) ?_
    refine ev_icmp_ne 38 dX6_nextToken_22 (by decide) (fun c9 => ?_) (fun c9 => ?_)
    · replace h := h.2 c9
      refine ev_aload_n 0 dX6_nextToken_38 rfl ?_
      refine ev_aload_n 0 dX6_nextToken_39 rfl ?_
      refine ev_get G6 lay_228 (k := 2) rfl (Nat.le_of_ble_eq_true rfl) dX6_nextToken_40 w_195 ?_
      refine ev_put G6 lay_228 (k := 3) rfl (Nat.le_of_ble_eq_true rfl) rfl (by decide +kernel) dX6_nextToken_43 w_196 ?_
      refine ev_aload_n 0 dX6_nextToken_46 rfl ?_
      refine ev_get G6 lay_228 (k := 2) rfl (Nat.le_of_ble_eq_true rfl) dX6_nextToken_47 w_195 ?_
      refine ev_aload_n 0 dX6_nextToken_50 rfl ?_
      refine ev_get G6 lay_228 (k := 1) rfl (Nat.le_of_ble_eq_true rfl) dX6_nextToken_51 w_194 ?_
      refine ev_icmp_lt 59 dX6_nextToken_54 (by decide) (fun c9 => ?_) (fun c9 => ?_)
      · replace h := h.1 c9
        refine ev_aload_n 0 dX6_nextToken_59 rfl ?_
        refine ev_getR (r := 229) G6 lay_228 (k := 0) rfl (Nat.le_of_ble_eq_true rfl) dX6_nextToken_60 w_193 ?_
        refine ev_aload_n 0 dX6_nextToken_63 rfl ?_
        refine ev_get G6 lay_228 (k := 2) rfl (Nat.le_of_ble_eq_true rfl) dX6_nextToken_64 w_195 ?_
        have hb67 := h.1
        replace h := h.2
        refine ev_bald lay_229 (Nat.le_of_ble_eq_true rfl) hb67 dX6_nextToken_67 ?_
        refine ev_istore_n (lv' := [(1, .int ((u1 σ 228 3 (σ.1 228 2)).1 229 ((u1 σ 228 3 (σ.1 228 2)).1 228 2).toNatClampNeg)), (0, .ref 228)]) dX6_nextToken_68 (Nat.le_of_ble_eq_true rfl) rfl ?_
        refine ev_iload_n 0 dX6_nextToken_69 rfl ?_
        refine ev_callS (M' := mX6_isLetter) [.int ((u1 σ 228 3 (σ.1 228 2)).1 229 ((u1 σ 228 3 (σ.1 228 2)).1 228 2).toNatClampNeg)] vX6_isLetter dX6_nextToken_70 w_999 rfl rfl (Nat.le_of_ble_eq_true rfl) (C6_isLetter (Q := fun r9 s9 => u1 σ 228 3 (σ.1 228 2) = s9 ∧ ((r9 = some (.int 1) ∧ (97 ≤ ((u1 σ 228 3 (σ.1 228 2)).1 229 ((u1 σ 228 3 (σ.1 228 2)).1 228 2).toNatClampNeg).toInt ∧ ((u1 σ 228 3 (σ.1 228 2)).1 229 ((u1 σ 228 3 (σ.1 228 2)).1 228 2).toNatClampNeg).toInt ≤ 122)) ∨ (r9 = some (.int 0) ∧ ¬ (97 ≤ ((u1 σ 228 3 (σ.1 228 2)).1 229 ((u1 σ 228 3 (σ.1 228 2)).1 228 2).toNatClampNeg).toInt ∧ ((u1 σ 228 3 (σ.1 228 2)).1 229 ((u1 σ 228 3 (σ.1 228 2)).1 228 2).toNatClampNeg).toInt ≤ 122)))) ⟨fun c9 => ⟨rfl, Or.inl ⟨rfl, c9⟩⟩, fun c9 => ⟨rfl, Or.inr ⟨rfl, c9⟩⟩⟩) ?_
        rintro r9 s9 ⟨rfl, ⟨rfl, c9⟩ | ⟨rfl, c9⟩⟩
        · replace h := h.1 c9
          refine ev_if_eq 81 dX6_nextToken_73 (by decide) (fun c9 => ?_) (fun c9 => ?_)
          · exact absurd c9 (by decide)
          · refine ev_aload_n 1 dX6_nextToken_76 rfl ?_
            refine ev_callV (M' := mX6_takeName) [] vX6_takeName G6 lay_228 dX6_nextToken_77 w_1002 rfl rfl (Nat.le_of_ble_eq_true rfl) h ?_
            rintro r9 σ7 ⟨v7, rfl, h⟩
            exact ev_iret rfl dX6_nextToken_80 h
        · replace h := h.2 c9
          refine ev_if_eq 81 dX6_nextToken_73 (by decide) (fun c9 => ?_) (fun c9 => ?_)
          · refine ev_iload_n 0 dX6_nextToken_81 rfl ?_
            refine ev_callS (M' := mX6_isFigure) [.int ((u1 σ 228 3 (σ.1 228 2)).1 229 ((u1 σ 228 3 (σ.1 228 2)).1 228 2).toNatClampNeg)] vX6_isFigure dX6_nextToken_82 w_1067 rfl rfl (Nat.le_of_ble_eq_true rfl) (C6_isFigure (Q := fun r9 s9 => u1 σ 228 3 (σ.1 228 2) = s9 ∧ ((r9 = some (.int 1) ∧ (48 ≤ ((u1 σ 228 3 (σ.1 228 2)).1 229 ((u1 σ 228 3 (σ.1 228 2)).1 228 2).toNatClampNeg).toInt ∧ ((u1 σ 228 3 (σ.1 228 2)).1 229 ((u1 σ 228 3 (σ.1 228 2)).1 228 2).toNatClampNeg).toInt ≤ 57)) ∨ (r9 = some (.int 0) ∧ ¬ (48 ≤ ((u1 σ 228 3 (σ.1 228 2)).1 229 ((u1 σ 228 3 (σ.1 228 2)).1 228 2).toNatClampNeg).toInt ∧ ((u1 σ 228 3 (σ.1 228 2)).1 229 ((u1 σ 228 3 (σ.1 228 2)).1 228 2).toNatClampNeg).toInt ≤ 57)))) ⟨fun c9 => ⟨rfl, Or.inl ⟨rfl, c9⟩⟩, fun c9 => ⟨rfl, Or.inr ⟨rfl, c9⟩⟩⟩) ?_
            rintro r9 s9 ⟨rfl, ⟨rfl, c9⟩ | ⟨rfl, c9⟩⟩
            · replace h := h.1 c9
              refine ev_if_eq 93 dX6_nextToken_85 (by decide) (fun c9 => ?_) (fun c9 => ?_)
              · exact absurd c9 (by decide)
              · refine ev_aload_n 1 dX6_nextToken_88 rfl ?_
                refine ev_callV (M' := mX6_takeNumber) [] vX6_takeNumber G6 lay_228 dX6_nextToken_89 w_1070 rfl rfl (Nat.le_of_ble_eq_true rfl) h ?_
                rintro r9 σ8 ⟨v8, rfl, h⟩
                exact ev_iret rfl dX6_nextToken_92 h
            · replace h := h.2 c9
              refine ev_if_eq 93 dX6_nextToken_85 (by decide) (fun c9 => ?_) (fun c9 => ?_)
              · refine ev_aload_n 1 dX6_nextToken_93 rfl ?_
                refine ev_dup dX6_nextToken_94 rfl ?_
                refine ev_get G6 lay_228 (k := 2) rfl (Nat.le_of_ble_eq_true rfl) dX6_nextToken_95 w_195 ?_
                refine ev_iconst 1 dX6_nextToken_98 (by decide) ?_
                refine ev_iadd dX6_nextToken_99 ?_
                refine ev_put G6 lay_228 (k := 2) rfl (Nat.le_of_ble_eq_true rfl) rfl (by decide +kernel) dX6_nextToken_100 w_195 ?_
                refine ev_iload_n 0 dX6_nextToken_103 rfl ?_
                refine ev_bipush 44 dX6_nextToken_104 (by decide) ?_
                refine ev_icmp_ne 111 dX6_nextToken_106 (by decide) (fun c9 => ?_) (fun c9 => ?_)
                · replace h := h.2 c9
                  refine ev_iload_n 0 dX6_nextToken_111 rfl ?_
                  refine ev_bipush 59 dX6_nextToken_112 (by decide) ?_
                  refine ev_icmp_ne 122 dX6_nextToken_114 (by decide) (fun c9 => ?_) (fun c9 => ?_)
                  · replace h := h.2 c9
                    refine ev_iconst 0 dX6_nextToken_122 (by decide) ?_
                    exact ev_iret rfl dX6_nextToken_123 h
                  · replace h := h.1 c9
                    refine ev_bipush 6 dX6_nextToken_117 (by decide) ?_
                    refine ev_goto 123 dX6_nextToken_119 (by decide) ?_
                    exact ev_iret rfl dX6_nextToken_123 h
                · replace h := h.1 c9
                  refine ev_iconst 5 dX6_nextToken_109 (by decide) ?_
                  exact ev_iret rfl dX6_nextToken_110 h
              · exact absurd c9 (by decide)
          · exact absurd c9 (by decide)
      · replace h := h.2 c9
        refine ev_iconst 1 dX6_nextToken_57 (by decide) ?_
        exact ev_iret rfl dX6_nextToken_58 h
    · replace h := h.1 c9
      refine ev_aload_n 0 dX6_nextToken_25 rfl ?_
      refine ev_dup dX6_nextToken_26 rfl ?_
      refine ev_get G6 lay_228 (k := 2) rfl (Nat.le_of_ble_eq_true rfl) dX6_nextToken_27 w_195 ?_
      refine ev_iconst 1 dX6_nextToken_30 (by decide) ?_
      refine ev_iadd dX6_nextToken_31 ?_
      refine ev_put G6 lay_228 (k := 2) rfl (Nat.le_of_ble_eq_true rfl) rfl (by decide +kernel) dX6_nextToken_32 w_195 ?_
      refine ev_goto 0 dX6_nextToken_35 (by decide) ?_
      refine ev_sub [0] rfl ?_
      exact h
abbrev KX6_takeName_0 (N : Nat) (σ : Sg) (Q : Option Value → Sg → Prop) : Prop := Ev (N + 9) mX6_takeName 0 [(0, .ref 228)] [] σ Q
abbrev KX6_takeName_52 (N : Nat) (σ : Sg) (Q : Option Value → Sg → Prop) (x1 : Int32) : Prop := Ev (N + 9) mX6_takeName 52 [(0, .ref 228), (1, .int x1)] [] σ Q
theorem EX6_takeName {N : Nat} {σ : Sg} {Q : Option Value → Sg → Prop} (h : ((σ.1 228 1) ≤ (σ.1 228 2) → EvM (N + 8) mX6_reads [.ref 228, .ref (KC + 1)] σ (fun r9 σ1 => ∃ v1, r9 = some (.int v1) ∧ ((v1 = 0 → KX6_takeName_52 N σ1 Q 0) ∧ (¬ v1 = 0 → Q (some (.int 3)) σ1)))) ∧ (¬ (σ.1 228 1) ≤ (σ.1 228 2) → vp_in (σ.1 228 2) 160 ∧ (((97 ≤ (σ.1 229 (σ.1 228 2).toNatClampNeg).toInt ∧ (σ.1 229 (σ.1 228 2).toNatClampNeg).toInt ≤ 122) → KX6_takeName_0 N (u1 σ 228 2 ((σ.1 228 2) + 1)) Q) ∧ (¬ (97 ≤ (σ.1 229 (σ.1 228 2).toNatClampNeg).toInt ∧ (σ.1 229 (σ.1 228 2).toNatClampNeg).toInt ≤ 122) → EvM (N + 8) mX6_reads [.ref 228, .ref (KC + 1)] σ (fun r9 σ2 => ∃ v2, r9 = some (.int v2) ∧ ((v2 = 0 → KX6_takeName_52 N σ2 Q 0) ∧ (¬ v2 = 0 → Q (some (.int 3)) σ2))))))) : EvM (N + 9) mX6_takeName [.ref 228] σ Q := by
  refine ev_entry rfl (Nat.le_of_ble_eq_true rfl) (lv := [(0, .ref 228)]) rfl ?_
  refine ev_aload_n 0 dX6_takeName_0 rfl ?_
  refine ev_get G6 lay_228 (k := 2) rfl (Nat.le_of_ble_eq_true rfl) dX6_takeName_1 w_195 ?_
  refine ev_aload_n 0 dX6_takeName_4 rfl ?_
  refine ev_get G6 lay_228 (k := 1) rfl (Nat.le_of_ble_eq_true rfl) dX6_takeName_5 w_194 ?_
  refine ev_icmp_ge 39 dX6_takeName_8 (by decide) (fun c9 => ?_) (fun c9 => ?_)
  · replace h := h.1 c9
    refine ev_aload_n 0 dX6_takeName_39 rfl ?_
    refine ev_ldcS0 rfl dX6_takeName_40 ?_
    refine ev_callV (M' := mX6_reads) [.ref (KC + 1)] vX6_reads G6 lay_228 dX6_takeName_42 w_1007 rfl rfl (Nat.le_of_ble_eq_true rfl) h ?_
    rintro r9 σ1 ⟨v1, rfl, h⟩
    refine ev_if_eq 50 dX6_takeName_45 (by decide) (fun c9 => ?_) (fun c9 => ?_)
    · replace h := h.1 c9
      refine ev_iconst 0 dX6_takeName_50 (by decide) ?_
      refine ev_istore_n (lv' := [(1, .int 0), (0, .ref 228)]) dX6_takeName_51 (Nat.le_of_ble_eq_true rfl) rfl ?_
      refine ev_sub [1, 0] rfl ?_
      exact h
    · replace h := h.2 c9
      refine ev_iconst 3 dX6_takeName_48 (by decide) ?_
      exact ev_iret rfl dX6_takeName_49 h
  · replace h := h.2 c9
    refine ev_aload_n 0 dX6_takeName_11 rfl ?_
    refine ev_getR (r := 229) G6 lay_228 (k := 0) rfl (Nat.le_of_ble_eq_true rfl) dX6_takeName_12 w_193 ?_
    refine ev_aload_n 0 dX6_takeName_15 rfl ?_
    refine ev_get G6 lay_228 (k := 2) rfl (Nat.le_of_ble_eq_true rfl) dX6_takeName_16 w_195 ?_
    have hb19 := h.1
    replace h := h.2
    refine ev_bald lay_229 (Nat.le_of_ble_eq_true rfl) hb19 dX6_takeName_19 ?_
    refine ev_callS (M' := mX6_isLetter) [.int (σ.1 229 (σ.1 228 2).toNatClampNeg)] vX6_isLetter dX6_takeName_20 w_999 rfl rfl (Nat.le_of_ble_eq_true rfl) (C6_isLetter (Q := fun r9 s9 => σ = s9 ∧ ((r9 = some (.int 1) ∧ (97 ≤ (σ.1 229 (σ.1 228 2).toNatClampNeg).toInt ∧ (σ.1 229 (σ.1 228 2).toNatClampNeg).toInt ≤ 122)) ∨ (r9 = some (.int 0) ∧ ¬ (97 ≤ (σ.1 229 (σ.1 228 2).toNatClampNeg).toInt ∧ (σ.1 229 (σ.1 228 2).toNatClampNeg).toInt ≤ 122)))) ⟨fun c9 => ⟨rfl, Or.inl ⟨rfl, c9⟩⟩, fun c9 => ⟨rfl, Or.inr ⟨rfl, c9⟩⟩⟩) ?_
    rintro r9 s9 ⟨rfl, ⟨rfl, c9⟩ | ⟨rfl, c9⟩⟩
    · replace h := h.1 c9
      refine ev_if_eq 39 dX6_takeName_23 (by decide) (fun c9 => ?_) (fun c9 => ?_)
      · exact absurd c9 (by decide)
      · refine ev_aload_n 0 dX6_takeName_26 rfl ?_
        refine ev_dup dX6_takeName_27 rfl ?_
        refine ev_get G6 lay_228 (k := 2) rfl (Nat.le_of_ble_eq_true rfl) dX6_takeName_28 w_195 ?_
        refine ev_iconst 1 dX6_takeName_31 (by decide) ?_
        refine ev_iadd dX6_takeName_32 ?_
        refine ev_put G6 lay_228 (k := 2) rfl (Nat.le_of_ble_eq_true rfl) rfl (by decide +kernel) dX6_takeName_33 w_195 ?_
        refine ev_goto 0 dX6_takeName_36 (by decide) ?_
        refine ev_sub [0] rfl ?_
        exact h
    · replace h := h.2 c9
      refine ev_if_eq 39 dX6_takeName_23 (by decide) (fun c9 => ?_) (fun c9 => ?_)
      · refine ev_aload_n 0 dX6_takeName_39 rfl ?_
        refine ev_ldcS0 rfl dX6_takeName_40 ?_
        refine ev_callV (M' := mX6_reads) [.ref (KC + 1)] vX6_reads G6 lay_228 dX6_takeName_42 w_1007 rfl rfl (Nat.le_of_ble_eq_true rfl) h ?_
        rintro r9 σ2 ⟨v2, rfl, h⟩
        refine ev_if_eq 50 dX6_takeName_45 (by decide) (fun c9 => ?_) (fun c9 => ?_)
        · replace h := h.1 c9
          refine ev_iconst 0 dX6_takeName_50 (by decide) ?_
          refine ev_istore_n (lv' := [(1, .int 0), (0, .ref 228)]) dX6_takeName_51 (Nat.le_of_ble_eq_true rfl) rfl ?_
          refine ev_sub [1, 0] rfl ?_
          exact h
        · replace h := h.2 c9
          refine ev_iconst 3 dX6_takeName_48 (by decide) ?_
          exact ev_iret rfl dX6_takeName_49 h
      · exact absurd c9 (by decide)
theorem BX6_takeName_0 {N : Nat} {σ : Sg} {Q : Option Value → Sg → Prop} (h : ((σ.1 228 1) ≤ (σ.1 228 2) → EvM (N + 8) mX6_reads [.ref 228, .ref (KC + 1)] σ (fun r9 σ3 => ∃ v3, r9 = some (.int v3) ∧ ((v3 = 0 → KX6_takeName_52 N σ3 Q 0) ∧ (¬ v3 = 0 → Q (some (.int 3)) σ3)))) ∧ (¬ (σ.1 228 1) ≤ (σ.1 228 2) → vp_in (σ.1 228 2) 160 ∧ (((97 ≤ (σ.1 229 (σ.1 228 2).toNatClampNeg).toInt ∧ (σ.1 229 (σ.1 228 2).toNatClampNeg).toInt ≤ 122) → KX6_takeName_0 N (u1 σ 228 2 ((σ.1 228 2) + 1)) Q) ∧ (¬ (97 ≤ (σ.1 229 (σ.1 228 2).toNatClampNeg).toInt ∧ (σ.1 229 (σ.1 228 2).toNatClampNeg).toInt ≤ 122) → EvM (N + 8) mX6_reads [.ref 228, .ref (KC + 1)] σ (fun r9 σ4 => ∃ v4, r9 = some (.int v4) ∧ ((v4 = 0 → KX6_takeName_52 N σ4 Q 0) ∧ (¬ v4 = 0 → Q (some (.int 3)) σ4))))))) : KX6_takeName_0 N σ Q := by
  refine ev_aload_n 0 dX6_takeName_0 rfl ?_
  refine ev_get G6 lay_228 (k := 2) rfl (Nat.le_of_ble_eq_true rfl) dX6_takeName_1 w_195 ?_
  refine ev_aload_n 0 dX6_takeName_4 rfl ?_
  refine ev_get G6 lay_228 (k := 1) rfl (Nat.le_of_ble_eq_true rfl) dX6_takeName_5 w_194 ?_
  refine ev_icmp_ge 39 dX6_takeName_8 (by decide) (fun c9 => ?_) (fun c9 => ?_)
  · replace h := h.1 c9
    refine ev_aload_n 0 dX6_takeName_39 rfl ?_
    refine ev_ldcS0 rfl dX6_takeName_40 ?_
    refine ev_callV (M' := mX6_reads) [.ref (KC + 1)] vX6_reads G6 lay_228 dX6_takeName_42 w_1007 rfl rfl (Nat.le_of_ble_eq_true rfl) h ?_
    rintro r9 σ3 ⟨v3, rfl, h⟩
    refine ev_if_eq 50 dX6_takeName_45 (by decide) (fun c9 => ?_) (fun c9 => ?_)
    · replace h := h.1 c9
      refine ev_iconst 0 dX6_takeName_50 (by decide) ?_
      refine ev_istore_n (lv' := [(1, .int 0), (0, .ref 228)]) dX6_takeName_51 (Nat.le_of_ble_eq_true rfl) rfl ?_
      refine ev_sub [1, 0] rfl ?_
      exact h
    · replace h := h.2 c9
      refine ev_iconst 3 dX6_takeName_48 (by decide) ?_
      exact ev_iret rfl dX6_takeName_49 h
  · replace h := h.2 c9
    refine ev_aload_n 0 dX6_takeName_11 rfl ?_
    refine ev_getR (r := 229) G6 lay_228 (k := 0) rfl (Nat.le_of_ble_eq_true rfl) dX6_takeName_12 w_193 ?_
    refine ev_aload_n 0 dX6_takeName_15 rfl ?_
    refine ev_get G6 lay_228 (k := 2) rfl (Nat.le_of_ble_eq_true rfl) dX6_takeName_16 w_195 ?_
    have hb19 := h.1
    replace h := h.2
    refine ev_bald lay_229 (Nat.le_of_ble_eq_true rfl) hb19 dX6_takeName_19 ?_
    refine ev_callS (M' := mX6_isLetter) [.int (σ.1 229 (σ.1 228 2).toNatClampNeg)] vX6_isLetter dX6_takeName_20 w_999 rfl rfl (Nat.le_of_ble_eq_true rfl) (C6_isLetter (Q := fun r9 s9 => σ = s9 ∧ ((r9 = some (.int 1) ∧ (97 ≤ (σ.1 229 (σ.1 228 2).toNatClampNeg).toInt ∧ (σ.1 229 (σ.1 228 2).toNatClampNeg).toInt ≤ 122)) ∨ (r9 = some (.int 0) ∧ ¬ (97 ≤ (σ.1 229 (σ.1 228 2).toNatClampNeg).toInt ∧ (σ.1 229 (σ.1 228 2).toNatClampNeg).toInt ≤ 122)))) ⟨fun c9 => ⟨rfl, Or.inl ⟨rfl, c9⟩⟩, fun c9 => ⟨rfl, Or.inr ⟨rfl, c9⟩⟩⟩) ?_
    rintro r9 s9 ⟨rfl, ⟨rfl, c9⟩ | ⟨rfl, c9⟩⟩
    · replace h := h.1 c9
      refine ev_if_eq 39 dX6_takeName_23 (by decide) (fun c9 => ?_) (fun c9 => ?_)
      · exact absurd c9 (by decide)
      · refine ev_aload_n 0 dX6_takeName_26 rfl ?_
        refine ev_dup dX6_takeName_27 rfl ?_
        refine ev_get G6 lay_228 (k := 2) rfl (Nat.le_of_ble_eq_true rfl) dX6_takeName_28 w_195 ?_
        refine ev_iconst 1 dX6_takeName_31 (by decide) ?_
        refine ev_iadd dX6_takeName_32 ?_
        refine ev_put G6 lay_228 (k := 2) rfl (Nat.le_of_ble_eq_true rfl) rfl (by decide +kernel) dX6_takeName_33 w_195 ?_
        refine ev_goto 0 dX6_takeName_36 (by decide) ?_
        refine ev_sub [0] rfl ?_
        exact h
    · replace h := h.2 c9
      refine ev_if_eq 39 dX6_takeName_23 (by decide) (fun c9 => ?_) (fun c9 => ?_)
      · refine ev_aload_n 0 dX6_takeName_39 rfl ?_
        refine ev_ldcS0 rfl dX6_takeName_40 ?_
        refine ev_callV (M' := mX6_reads) [.ref (KC + 1)] vX6_reads G6 lay_228 dX6_takeName_42 w_1007 rfl rfl (Nat.le_of_ble_eq_true rfl) h ?_
        rintro r9 σ4 ⟨v4, rfl, h⟩
        refine ev_if_eq 50 dX6_takeName_45 (by decide) (fun c9 => ?_) (fun c9 => ?_)
        · replace h := h.1 c9
          refine ev_iconst 0 dX6_takeName_50 (by decide) ?_
          refine ev_istore_n (lv' := [(1, .int 0), (0, .ref 228)]) dX6_takeName_51 (Nat.le_of_ble_eq_true rfl) rfl ?_
          refine ev_sub [1, 0] rfl ?_
          exact h
        · replace h := h.2 c9
          refine ev_iconst 3 dX6_takeName_48 (by decide) ?_
          exact ev_iret rfl dX6_takeName_49 h
      · exact absurd c9 (by decide)
theorem BX6_takeName_52 {N : Nat} {σ : Sg} {Q : Option Value → Sg → Prop} {x1 : Int32} (h : (5 ≤ x1 → Q (some (.int 0)) σ) ∧ (¬ 5 ≤ x1 → EvM (N + 8) mX6_kindName [.int x1] σ (fun r9 σ5 => ∃ v5, r9 = some (.ref v5) ∧ (EvM (N + 8) mX6_reads [.ref 228, .ref v5] σ5 (fun r9 σ6 => ∃ v6, r9 = some (.int v6) ∧ ((v6 = 0 → KX6_takeName_52 N σ6 Q (x1 + 1)) ∧ (¬ v6 = 0 → Q (some (.int 2)) (u1 σ6 228 4 x1)))))))) : KX6_takeName_52 N σ Q x1 := by
  refine ev_iload_n 1 dX6_takeName_52 rfl ?_
  refine ev_iconst 5 dX6_takeName_53 (by decide) ?_
  refine ev_icmp_ge 84 dX6_takeName_54 (by decide) (fun c9 => ?_) (fun c9 => ?_)
  · replace h := h.1 c9
    refine ev_iconst 0 dX6_takeName_84 (by decide) ?_
    exact ev_iret rfl dX6_takeName_85 h
  · replace h := h.2 c9
    refine ev_aload_n 0 dX6_takeName_57 rfl ?_
    refine ev_iload_n 1 dX6_takeName_58 rfl ?_
    refine ev_callS (M' := mX6_kindName) [.int x1] vX6_kindName dX6_takeName_59 w_1059 rfl rfl (Nat.le_of_ble_eq_true rfl) h ?_
    rintro r9 σ5 ⟨v5, rfl, h⟩
    refine ev_callV (M' := mX6_reads) [.ref v5] vX6_reads G6 lay_228 dX6_takeName_62 w_1007 rfl rfl (Nat.le_of_ble_eq_true rfl) h ?_
    rintro r9 σ6 ⟨v6, rfl, h⟩
    refine ev_if_ne 71 dX6_takeName_65 (by decide) (fun c9 => ?_) (fun c9 => ?_)
    · replace h := h.2 c9
      refine ev_aload_n 0 dX6_takeName_71 rfl ?_
      refine ev_iload_n 1 dX6_takeName_72 rfl ?_
      refine ev_put G6 lay_228 (k := 4) rfl (Nat.le_of_ble_eq_true rfl) rfl (by decide +kernel) dX6_takeName_73 w_197 ?_
      refine ev_iconst 2 dX6_takeName_76 (by decide) ?_
      exact ev_iret rfl dX6_takeName_77 h
    · replace h := h.1 c9
      refine ev_goto 78 dX6_takeName_68 (by decide) ?_
      refine ev_iinc (lv' := [(1, .int (x1 + 1)), (0, .ref 228)]) (x1 + 1) 1 dX6_takeName_78 rfl rfl (Nat.le_of_ble_eq_true rfl) rfl ?_
      refine ev_goto 52 dX6_takeName_81 (by decide) ?_
      refine ev_sub [1, 0] rfl ?_
      exact h
abbrev KX6_takeNumber_5 (N : Nat) (σ : Sg) (Q : Option Value → Sg → Prop) : Prop := Ev (N + 1) mX6_takeNumber 5 [(0, .ref 228)] [] σ Q
theorem EX6_takeNumber {N : Nat} {σ : Sg} {Q : Option Value → Sg → Prop} (h : KX6_takeNumber_5 N (u1 σ 228 4 0) Q) : EvM (N + 1) mX6_takeNumber [.ref 228] σ Q := by
  refine ev_entry rfl (Nat.le_of_ble_eq_true rfl) (lv := [(0, .ref 228)]) rfl ?_
  refine ev_aload_n 0 dX6_takeNumber_0 rfl ?_
  refine ev_iconst 0 dX6_takeNumber_1 (by decide) ?_
  refine ev_put G6 lay_228 (k := 4) rfl (Nat.le_of_ble_eq_true rfl) rfl (by decide +kernel) dX6_takeNumber_2 w_197 ?_
  refine ev_sub [0] rfl ?_
  exact h
theorem BX6_takeNumber_5 {N : Nat} {σ : Sg} {Q : Option Value → Sg → Prop} (h : ((σ.1 228 1) ≤ (σ.1 228 2) → (((σ.1 228 2) - (σ.1 228 3)) ≤ 2 → Q (some (.int 4)) σ) ∧ (¬ ((σ.1 228 2) - (σ.1 228 3)) ≤ 2 → Q (some (.int 0)) σ)) ∧ (¬ (σ.1 228 1) ≤ (σ.1 228 2) → vp_in (σ.1 228 2) 160 ∧ (((48 ≤ (σ.1 229 (σ.1 228 2).toNatClampNeg).toInt ∧ (σ.1 229 (σ.1 228 2).toNatClampNeg).toInt ≤ 57) → vp_in (σ.1 228 2) 160 ∧ (KX6_takeNumber_5 N (u1 (u1 σ 228 4 (((σ.1 228 4) * 10) + ((σ.1 229 (σ.1 228 2).toNatClampNeg) - 48))) 228 2 (((u1 σ 228 4 (((σ.1 228 4) * 10) + ((σ.1 229 (σ.1 228 2).toNatClampNeg) - 48))).1 228 2) + 1)) Q)) ∧ (¬ (48 ≤ (σ.1 229 (σ.1 228 2).toNatClampNeg).toInt ∧ (σ.1 229 (σ.1 228 2).toNatClampNeg).toInt ≤ 57) → (((σ.1 228 2) - (σ.1 228 3)) ≤ 2 → Q (some (.int 4)) σ) ∧ (¬ ((σ.1 228 2) - (σ.1 228 3)) ≤ 2 → Q (some (.int 0)) σ))))) : KX6_takeNumber_5 N σ Q := by
  refine ev_aload_n 0 dX6_takeNumber_5 rfl ?_
  refine ev_get G6 lay_228 (k := 2) rfl (Nat.le_of_ble_eq_true rfl) dX6_takeNumber_6 w_195 ?_
  refine ev_aload_n 0 dX6_takeNumber_9 rfl ?_
  refine ev_get G6 lay_228 (k := 1) rfl (Nat.le_of_ble_eq_true rfl) dX6_takeNumber_10 w_194 ?_
  refine ev_icmp_ge 68 dX6_takeNumber_13 (by decide) (fun c9 => ?_) (fun c9 => ?_)
  · replace h := h.1 c9
    refine ev_aload_n 0 dX6_takeNumber_68 rfl ?_
    refine ev_get G6 lay_228 (k := 2) rfl (Nat.le_of_ble_eq_true rfl) dX6_takeNumber_69 w_195 ?_
    refine ev_aload_n 0 dX6_takeNumber_72 rfl ?_
    refine ev_get G6 lay_228 (k := 3) rfl (Nat.le_of_ble_eq_true rfl) dX6_takeNumber_73 w_196 ?_
    refine ev_isub dX6_takeNumber_76 ?_
    refine ev_iconst 2 dX6_takeNumber_77 (by decide) ?_
    refine ev_icmp_le 85 dX6_takeNumber_78 (by decide) (fun c9 => ?_) (fun c9 => ?_)
    · replace h := h.1 c9
      refine ev_iconst 4 dX6_takeNumber_85 (by decide) ?_
      exact ev_iret rfl dX6_takeNumber_86 h
    · replace h := h.2 c9
      refine ev_iconst 0 dX6_takeNumber_81 (by decide) ?_
      refine ev_goto 86 dX6_takeNumber_82 (by decide) ?_
      exact ev_iret rfl dX6_takeNumber_86 h
  · replace h := h.2 c9
    refine ev_aload_n 0 dX6_takeNumber_16 rfl ?_
    refine ev_getR (r := 229) G6 lay_228 (k := 0) rfl (Nat.le_of_ble_eq_true rfl) dX6_takeNumber_17 w_193 ?_
    refine ev_aload_n 0 dX6_takeNumber_20 rfl ?_
    refine ev_get G6 lay_228 (k := 2) rfl (Nat.le_of_ble_eq_true rfl) dX6_takeNumber_21 w_195 ?_
    have hb24 := h.1
    replace h := h.2
    refine ev_bald lay_229 (Nat.le_of_ble_eq_true rfl) hb24 dX6_takeNumber_24 ?_
    refine ev_callS (M' := mX6_isFigure) [.int (σ.1 229 (σ.1 228 2).toNatClampNeg)] vX6_isFigure dX6_takeNumber_25 w_1067 rfl rfl (Nat.le_of_ble_eq_true rfl) (C6_isFigure (Q := fun r9 s9 => σ = s9 ∧ ((r9 = some (.int 1) ∧ (48 ≤ (σ.1 229 (σ.1 228 2).toNatClampNeg).toInt ∧ (σ.1 229 (σ.1 228 2).toNatClampNeg).toInt ≤ 57)) ∨ (r9 = some (.int 0) ∧ ¬ (48 ≤ (σ.1 229 (σ.1 228 2).toNatClampNeg).toInt ∧ (σ.1 229 (σ.1 228 2).toNatClampNeg).toInt ≤ 57)))) ⟨fun c9 => ⟨rfl, Or.inl ⟨rfl, c9⟩⟩, fun c9 => ⟨rfl, Or.inr ⟨rfl, c9⟩⟩⟩) ?_
    rintro r9 s9 ⟨rfl, ⟨rfl, c9⟩ | ⟨rfl, c9⟩⟩
    · replace h := h.1 c9
      refine ev_if_eq 68 dX6_takeNumber_28 (by decide) (fun c9 => ?_) (fun c9 => ?_)
      · exact absurd c9 (by decide)
      · refine ev_aload_n 0 dX6_takeNumber_31 rfl ?_
        refine ev_aload_n 0 dX6_takeNumber_32 rfl ?_
        refine ev_get G6 lay_228 (k := 4) rfl (Nat.le_of_ble_eq_true rfl) dX6_takeNumber_33 w_197 ?_
        refine ev_bipush 10 dX6_takeNumber_36 (by decide) ?_
        refine ev_imul dX6_takeNumber_38 ?_
        refine ev_aload_n 0 dX6_takeNumber_39 rfl ?_
        refine ev_getR (r := 229) G6 lay_228 (k := 0) rfl (Nat.le_of_ble_eq_true rfl) dX6_takeNumber_40 w_193 ?_
        refine ev_aload_n 0 dX6_takeNumber_43 rfl ?_
        refine ev_get G6 lay_228 (k := 2) rfl (Nat.le_of_ble_eq_true rfl) dX6_takeNumber_44 w_195 ?_
        have hb47 := h.1
        replace h := h.2
        refine ev_bald lay_229 (Nat.le_of_ble_eq_true rfl) hb47 dX6_takeNumber_47 ?_
        refine ev_bipush 48 dX6_takeNumber_48 (by decide) ?_
        refine ev_isub dX6_takeNumber_50 ?_
        refine ev_iadd dX6_takeNumber_51 ?_
        refine ev_put G6 lay_228 (k := 4) rfl (Nat.le_of_ble_eq_true rfl) rfl (by decide +kernel) dX6_takeNumber_52 w_197 ?_
        refine ev_aload_n 0 dX6_takeNumber_55 rfl ?_
        refine ev_dup dX6_takeNumber_56 rfl ?_
        refine ev_get G6 lay_228 (k := 2) rfl (Nat.le_of_ble_eq_true rfl) dX6_takeNumber_57 w_195 ?_
        refine ev_iconst 1 dX6_takeNumber_60 (by decide) ?_
        refine ev_iadd dX6_takeNumber_61 ?_
        refine ev_put G6 lay_228 (k := 2) rfl (Nat.le_of_ble_eq_true rfl) rfl (by decide +kernel) dX6_takeNumber_62 w_195 ?_
        refine ev_goto 5 dX6_takeNumber_65 (by decide) ?_
        refine ev_sub [0] rfl ?_
        exact h
    · replace h := h.2 c9
      refine ev_if_eq 68 dX6_takeNumber_28 (by decide) (fun c9 => ?_) (fun c9 => ?_)
      · refine ev_aload_n 0 dX6_takeNumber_68 rfl ?_
        refine ev_get G6 lay_228 (k := 2) rfl (Nat.le_of_ble_eq_true rfl) dX6_takeNumber_69 w_195 ?_
        refine ev_aload_n 0 dX6_takeNumber_72 rfl ?_
        refine ev_get G6 lay_228 (k := 3) rfl (Nat.le_of_ble_eq_true rfl) dX6_takeNumber_73 w_196 ?_
        refine ev_isub dX6_takeNumber_76 ?_
        refine ev_iconst 2 dX6_takeNumber_77 (by decide) ?_
        refine ev_icmp_le 85 dX6_takeNumber_78 (by decide) (fun c9 => ?_) (fun c9 => ?_)
        · replace h := h.1 c9
          refine ev_iconst 4 dX6_takeNumber_85 (by decide) ?_
          exact ev_iret rfl dX6_takeNumber_86 h
        · replace h := h.2 c9
          refine ev_iconst 0 dX6_takeNumber_81 (by decide) ?_
          refine ev_goto 86 dX6_takeNumber_82 (by decide) ?_
          exact ev_iret rfl dX6_takeNumber_86 h
      · exact absurd c9 (by decide)
theorem EX7_lengthOf {N : Nat} {σ : Sg} {Q : Option Value → Sg → Prop} {x1 : Int32} (h : ((0 ≤ (x1).toInt ∧ (x1).toInt < (σ.1 5 4).toInt) → vp_in x1 8 ∧ (Q (some (.int (σ.1 16 (x1).toNatClampNeg))) σ)) ∧ (¬ (0 ≤ (x1).toInt ∧ (x1).toInt < (σ.1 5 4).toInt) → Q (some (.int 0)) σ)) : EvM (N + 1) mX7_lengthOf [.ref 5, .int x1] σ Q := by
  refine ev_entry rfl (Nat.le_of_ble_eq_true rfl) (lv := [(0, .ref 5), (1, .int x1)]) rfl ?_
  refine ev_aload_n 0 dX7_lengthOf_0 rfl ?_
  refine ev_iload_n 1 dX7_lengthOf_1 rfl ?_
  refine ev_callV (M' := mX7_isText) [.int x1] vX7_isText G7 lay_5 dX7_lengthOf_2 w_576 rfl rfl (Nat.le_of_ble_eq_true rfl) (C7_isText (Q := fun r9 s9 => σ = s9 ∧ ((r9 = some (.int 1) ∧ (0 ≤ (x1).toInt ∧ (x1).toInt < (σ.1 5 4).toInt)) ∨ (r9 = some (.int 0) ∧ ¬ (0 ≤ (x1).toInt ∧ (x1).toInt < (σ.1 5 4).toInt)))) ⟨fun c9 => ⟨rfl, Or.inl ⟨rfl, c9⟩⟩, fun c9 => ⟨rfl, Or.inr ⟨rfl, c9⟩⟩⟩) ?_
  rintro r9 s9 ⟨rfl, ⟨rfl, c9⟩ | ⟨rfl, c9⟩⟩
  · replace h := h.1 c9
    refine ev_if_eq 17 dX7_lengthOf_5 (by decide) (fun c9 => ?_) (fun c9 => ?_)
    · exact absurd c9 (by decide)
    · refine ev_aload_n 0 dX7_lengthOf_8 rfl ?_
      refine ev_getR (r := 16) G7 lay_5 (k := 3) rfl (Nat.le_of_ble_eq_true rfl) dX7_lengthOf_9 w_155 ?_
      refine ev_iload_n 1 dX7_lengthOf_12 rfl ?_
      have hb13 := h.1
      replace h := h.2
      refine ev_iald lay_16 (Nat.le_of_ble_eq_true rfl) hb13 dX7_lengthOf_13 ?_
      refine ev_goto 18 dX7_lengthOf_14 (by decide) ?_
      exact ev_iret rfl dX7_lengthOf_18 h
  · replace h := h.2 c9
    refine ev_if_eq 17 dX7_lengthOf_5 (by decide) (fun c9 => ?_) (fun c9 => ?_)
    · refine ev_iconst 0 dX7_lengthOf_17 (by decide) ?_
      exact ev_iret rfl dX7_lengthOf_18 h
    · exact absurd c9 (by decide)
theorem EX7_areTexts {N : Nat} {σ : Sg} {Q : Option Value → Sg → Prop} {x1 : Int32} (h : (x1 < 0 → Q (some (.int 0)) σ) ∧ (¬ x1 < 0 → ((1 <<< ((σ.1 5 4) &&& 31)) ≤ x1 → Q (some (.int 0)) σ) ∧ (¬ (1 <<< ((σ.1 5 4) &&& 31)) ≤ x1 → Q (some (.int 1)) σ))) : EvM N mX7_areTexts [.ref 5, .int x1] σ Q := by
  refine ev_entry rfl (Nat.le_of_ble_eq_true rfl) (lv := [(0, .ref 5), (1, .int x1)]) rfl ?_
  refine ev_iload_n 1 dX7_areTexts_0 rfl ?_
  refine ev_if_lt 18 dX7_areTexts_1 (by decide) (fun c9 => ?_) (fun c9 => ?_)
  · replace h := h.1 c9
    refine ev_iconst 0 dX7_areTexts_18 (by decide) ?_
    exact ev_zret (ty := .boolean) rfl (by rfl) dX7_areTexts_19 h
  · replace h := h.2 c9
    refine ev_iload_n 1 dX7_areTexts_4 rfl ?_
    refine ev_iconst 1 dX7_areTexts_5 (by decide) ?_
    refine ev_aload_n 0 dX7_areTexts_6 rfl ?_
    refine ev_get G7 lay_5 (k := 4) rfl (Nat.le_of_ble_eq_true rfl) dX7_areTexts_7 w_156 ?_
    refine ev_ishl dX7_areTexts_10 ?_
    refine ev_icmp_ge 18 dX7_areTexts_11 (by decide) (fun c9 => ?_) (fun c9 => ?_)
    · replace h := h.1 c9
      refine ev_iconst 0 dX7_areTexts_18 (by decide) ?_
      exact ev_zret (ty := .boolean) rfl (by rfl) dX7_areTexts_19 h
    · replace h := h.2 c9
      refine ev_iconst 1 dX7_areTexts_14 (by decide) ?_
      refine ev_goto 19 dX7_areTexts_15 (by decide) ?_
      exact ev_zret (ty := .boolean) rfl (by rfl) dX7_areTexts_19 h
theorem EX7_draftCell {N : Nat} {σ : Sg} {Q : Option Value → Sg → Prop} {x1 : Int32} {x2 : Int32} (h : (x1 < 0 → Q (some (.int 0)) σ) ∧ (¬ x1 < 0 → (x1 < 24 → ((0 ≤ (x2).toInt ∧ (x2).toInt < (σ.1 1 3).toInt) → vp_in x1 24 ∧ (Q (some (.int 1)) (u1 σ 6 (x1).toNatClampNeg x2))) ∧ (¬ (0 ≤ (x2).toInt ∧ (x2).toInt < (σ.1 1 3).toInt) → (x2 = (-1) → vp_in x1 24 ∧ (Q (some (.int 1)) (u1 σ 6 (x1).toNatClampNeg x2))) ∧ (¬ x2 = (-1) → (x2 = (-2) → vp_in x1 24 ∧ (Q (some (.int 1)) (u1 σ 6 (x1).toNatClampNeg x2))) ∧ (¬ x2 = (-2) → Q (some (.int 0)) σ)))) ∧ (¬ x1 < 24 → Q (some (.int 0)) σ))) : EvM (N + 1) mX7_draftCell [.ref 5, .int x1, .int x2] σ Q := by
  refine ev_entry rfl (Nat.le_of_ble_eq_true rfl) (lv := [(0, .ref 5), (1, .int x1), (2, .int x2)]) rfl ?_
  refine ev_iload_n 1 dX7_draftCell_0 rfl ?_
  refine ev_if_lt 10 dX7_draftCell_1 (by decide) (fun c9 => ?_) (fun c9 => ?_)
  · replace h := h.1 c9
    refine ev_iconst 0 dX7_draftCell_10 (by decide) ?_
    exact ev_zret (ty := .boolean) rfl (by rfl) dX7_draftCell_11 h
  · replace h := h.2 c9
    refine ev_iload_n 1 dX7_draftCell_4 rfl ?_
    refine ev_bipush 24 dX7_draftCell_5 (by decide) ?_
    refine ev_icmp_lt 12 dX7_draftCell_7 (by decide) (fun c9 => ?_) (fun c9 => ?_)
    · replace h := h.1 c9
      refine ev_aload_n 0 dX7_draftCell_12 rfl ?_
      refine ev_getR (r := 1) G7 lay_5 (k := 0) rfl (Nat.le_of_ble_eq_true rfl) dX7_draftCell_13 w_152 ?_
      refine ev_iload_n 2 dX7_draftCell_16 rfl ?_
      refine ev_callV (M' := mX2_isForm) [.int x2] vX2_isForm G2 lay_1 dX7_draftCell_17 w_539 rfl rfl (Nat.le_of_ble_eq_true rfl) (C2_isForm (Q := fun r9 s9 => σ = s9 ∧ ((r9 = some (.int 1) ∧ (0 ≤ (x2).toInt ∧ (x2).toInt < (σ.1 1 3).toInt)) ∨ (r9 = some (.int 0) ∧ ¬ (0 ≤ (x2).toInt ∧ (x2).toInt < (σ.1 1 3).toInt)))) ⟨fun c9 => ⟨rfl, Or.inl ⟨rfl, c9⟩⟩, fun c9 => ⟨rfl, Or.inr ⟨rfl, c9⟩⟩⟩) ?_
      rintro r9 s9 ⟨rfl, ⟨rfl, c9⟩ | ⟨rfl, c9⟩⟩
      · replace h := h.1 c9
        refine ev_if_ne 36 dX7_draftCell_20 (by decide) (fun c9 => ?_) (fun c9 => ?_)
        · refine ev_aload_n 0 dX7_draftCell_36 rfl ?_
          refine ev_getR (r := 6) G7 lay_5 (k := 1) rfl (Nat.le_of_ble_eq_true rfl) dX7_draftCell_37 w_153 ?_
          refine ev_iload_n 1 dX7_draftCell_40 rfl ?_
          refine ev_iload_n 2 dX7_draftCell_41 rfl ?_
          have hb42 := h.1
          replace h := h.2
          refine ev_iast lay_6 (Nat.le_of_ble_eq_true rfl) hb42 dX7_draftCell_42 ?_
          refine ev_iconst 1 dX7_draftCell_43 (by decide) ?_
          exact ev_zret (ty := .boolean) rfl (by rfl) dX7_draftCell_44 h
        · exact absurd c9 (by decide)
      · replace h := h.2 c9
        refine ev_if_ne 36 dX7_draftCell_20 (by decide) (fun c9 => ?_) (fun c9 => ?_)
        · exact absurd c9 (by decide)
        · refine ev_iload_n 2 dX7_draftCell_23 rfl ?_
          refine ev_iconst (-1) dX7_draftCell_24 (by decide) ?_
          refine ev_icmp_eq 36 dX7_draftCell_25 (by decide) (fun c9 => ?_) (fun c9 => ?_)
          · replace h := h.1 c9
            refine ev_aload_n 0 dX7_draftCell_36 rfl ?_
            refine ev_getR (r := 6) G7 lay_5 (k := 1) rfl (Nat.le_of_ble_eq_true rfl) dX7_draftCell_37 w_153 ?_
            refine ev_iload_n 1 dX7_draftCell_40 rfl ?_
            refine ev_iload_n 2 dX7_draftCell_41 rfl ?_
            have hb42 := h.1
            replace h := h.2
            refine ev_iast lay_6 (Nat.le_of_ble_eq_true rfl) hb42 dX7_draftCell_42 ?_
            refine ev_iconst 1 dX7_draftCell_43 (by decide) ?_
            exact ev_zret (ty := .boolean) rfl (by rfl) dX7_draftCell_44 h
          · replace h := h.2 c9
            refine ev_iload_n 2 dX7_draftCell_28 rfl ?_
            refine ev_bipush (-2) dX7_draftCell_29 (by decide) ?_
            refine ev_icmp_eq 36 dX7_draftCell_31 (by decide) (fun c9 => ?_) (fun c9 => ?_)
            · replace h := h.1 c9
              refine ev_aload_n 0 dX7_draftCell_36 rfl ?_
              refine ev_getR (r := 6) G7 lay_5 (k := 1) rfl (Nat.le_of_ble_eq_true rfl) dX7_draftCell_37 w_153 ?_
              refine ev_iload_n 1 dX7_draftCell_40 rfl ?_
              refine ev_iload_n 2 dX7_draftCell_41 rfl ?_
              have hb42 := h.1
              replace h := h.2
              refine ev_iast lay_6 (Nat.le_of_ble_eq_true rfl) hb42 dX7_draftCell_42 ?_
              refine ev_iconst 1 dX7_draftCell_43 (by decide) ?_
              exact ev_zret (ty := .boolean) rfl (by rfl) dX7_draftCell_44 h
            · replace h := h.2 c9
              refine ev_iconst 0 dX7_draftCell_34 (by decide) ?_
              exact ev_zret (ty := .boolean) rfl (by rfl) dX7_draftCell_35 h
    · replace h := h.2 c9
      refine ev_iconst 0 dX7_draftCell_10 (by decide) ?_
      exact ev_zret (ty := .boolean) rfl (by rfl) dX7_draftCell_11 h
abbrev KX7_addDraft_27 (N : Nat) (σ : Sg) (Q : Option Value → Sg → Prop) (x1 : Int32) (x2 : Int32) : Prop := Ev (N + 4) mX7_addDraft 27 [(0, .ref 5), (1, .int x1), (2, .int x2)] [] σ Q
theorem EX7_addDraft {N : Nat} {σ : Sg} {Q : Option Value → Sg → Prop} {x1 : Int32} (h : (x1 < 1 → Q (some (.int (-1))) σ) ∧ (¬ x1 < 1 → (x1 ≤ 24 → ((σ.1 5 4) < 8 → KX7_addDraft_27 N σ Q x1 0) ∧ (¬ (σ.1 5 4) < 8 → Q (some (.int (-3))) σ)) ∧ (¬ x1 ≤ 24 → Q (some (.int (-1))) σ))) : EvM (N + 4) mX7_addDraft [.ref 5, .int x1] σ Q := by
  refine ev_entry rfl (Nat.le_of_ble_eq_true rfl) (lv := [(0, .ref 5), (1, .int x1)]) rfl ?_
  refine ev_iload_n 1 dX7_addDraft_0 rfl ?_
  refine ev_iconst 1 dX7_addDraft_1 (by decide) ?_
  refine ev_icmp_lt 11 dX7_addDraft_2 (by decide) (fun c9 => ?_) (fun c9 => ?_)
  · replace h := h.1 c9
    refine ev_iconst (-1) dX7_addDraft_11 (by decide) ?_
    exact ev_iret rfl dX7_addDraft_12 h
  · replace h := h.2 c9
    refine ev_iload_n 1 dX7_addDraft_5 rfl ?_
    refine ev_bipush 24 dX7_addDraft_6 (by decide) ?_
    refine ev_icmp_le 13 dX7_addDraft_8 (by decide) (fun c9 => ?_) (fun c9 => ?_)
    · replace h := h.1 c9
      refine ev_aload_n 0 dX7_addDraft_13 rfl ?_
      refine ev_get G7 lay_5 (k := 4) rfl (Nat.le_of_ble_eq_true rfl) dX7_addDraft_14 w_156 ?_
      refine ev_bipush 8 dX7_addDraft_17 (by decide) ?_
      refine ev_icmp_lt 25 dX7_addDraft_19 (by decide) (fun c9 => ?_) (fun c9 => ?_)
      · replace h := h.1 c9
        refine ev_iconst 0 dX7_addDraft_25 (by decide) ?_
        refine ev_istore_n (lv' := [(2, .int 0), (0, .ref 5), (1, .int x1)]) dX7_addDraft_26 (Nat.le_of_ble_eq_true rfl) rfl ?_
        refine ev_sub [1, 2, 0] rfl ?_
        exact h
      · replace h := h.2 c9
        refine ev_bipush (-3) dX7_addDraft_22 (by decide) ?_
        exact ev_iret rfl dX7_addDraft_24 h
    · replace h := h.2 c9
      refine ev_iconst (-1) dX7_addDraft_11 (by decide) ?_
      exact ev_iret rfl dX7_addDraft_12 h
theorem BX7_addDraft_27 {N : Nat} {σ : Sg} {Q : Option Value → Sg → Prop} {x1 : Int32} {x2 : Int32} (h : (x1 ≤ x2 → vp_in (σ.1 5 4) 8 ∧ (EvM (N + 3) mX7_findWords [.ref 5, .int (((u1 (u1 σ 16 (σ.1 5 4).toNatClampNeg x1) 5 4 (((u1 σ 16 (σ.1 5 4).toNatClampNeg x1).1 5 4) + 1)).1 5 4) - 1)] (u1 (u1 σ 16 (σ.1 5 4).toNatClampNeg x1) 5 4 (((u1 σ 16 (σ.1 5 4).toNatClampNeg x1).1 5 4) + 1)) (fun r9 σ1 => r9 = none ∧ (Q (some (.int ((σ1.1 5 4) - 1))) σ1)))) ∧ (¬ x1 ≤ x2 → vp_in (σ.1 5 4) 8 ∧ (vp_in x2 24 ∧ (vp_in x2 24 ∧ (KX7_addDraft_27 N (u1 σ (8 + (σ.1 5 4).toNatClampNeg) (x2).toNatClampNeg (σ.1 6 (x2).toNatClampNeg)) Q x1 (x2 + 1)))))) : KX7_addDraft_27 N σ Q x1 x2 := by
  refine ev_iload_n 2 dX7_addDraft_27 rfl ?_
  refine ev_iload_n 1 dX7_addDraft_28 rfl ?_
  refine ev_icmp_ge 55 dX7_addDraft_29 (by decide) (fun c9 => ?_) (fun c9 => ?_)
  · replace h := h.1 c9
    refine ev_aload_n 0 dX7_addDraft_55 rfl ?_
    refine ev_getR (r := 16) G7 lay_5 (k := 3) rfl (Nat.le_of_ble_eq_true rfl) dX7_addDraft_56 w_155 ?_
    refine ev_aload_n 0 dX7_addDraft_59 rfl ?_
    refine ev_get G7 lay_5 (k := 4) rfl (Nat.le_of_ble_eq_true rfl) dX7_addDraft_60 w_156 ?_
    refine ev_iload_n 1 dX7_addDraft_63 rfl ?_
    have hb64 := h.1
    replace h := h.2
    refine ev_iast lay_16 (Nat.le_of_ble_eq_true rfl) hb64 dX7_addDraft_64 ?_
    refine ev_aload_n 0 dX7_addDraft_65 rfl ?_
    refine ev_dup dX7_addDraft_66 rfl ?_
    refine ev_get G7 lay_5 (k := 4) rfl (Nat.le_of_ble_eq_true rfl) dX7_addDraft_67 w_156 ?_
    refine ev_iconst 1 dX7_addDraft_70 (by decide) ?_
    refine ev_iadd dX7_addDraft_71 ?_
    refine ev_put G7 lay_5 (k := 4) rfl (Nat.le_of_ble_eq_true rfl) rfl (by decide +kernel) dX7_addDraft_72 w_156 ?_
    refine ev_aload_n 0 dX7_addDraft_75 rfl ?_
    refine ev_aload_n 0 dX7_addDraft_76 rfl ?_
    refine ev_get G7 lay_5 (k := 4) rfl (Nat.le_of_ble_eq_true rfl) dX7_addDraft_77 w_156 ?_
    refine ev_iconst 1 dX7_addDraft_80 (by decide) ?_
    refine ev_isub dX7_addDraft_81 ?_
    refine ev_callV (M' := mX7_findWords) [.int (((u1 (u1 σ 16 (σ.1 5 4).toNatClampNeg x1) 5 4 (((u1 σ 16 (σ.1 5 4).toNatClampNeg x1).1 5 4) + 1)).1 5 4) - 1)] vX7_findWords G7 lay_5 dX7_addDraft_82 w_547 rfl rfl (Nat.le_of_ble_eq_true rfl) h ?_
    rintro r9 σ1 ⟨rfl, h⟩
    refine ev_aload_n 0 dX7_addDraft_85 rfl ?_
    refine ev_get G7 lay_5 (k := 4) rfl (Nat.le_of_ble_eq_true rfl) dX7_addDraft_86 w_156 ?_
    refine ev_iconst 1 dX7_addDraft_89 (by decide) ?_
    refine ev_isub dX7_addDraft_90 ?_
    exact ev_iret rfl dX7_addDraft_91 h
  · replace h := h.2 c9
    refine ev_aload_n 0 dX7_addDraft_32 rfl ?_
    refine ev_getR (r := 7) G7 lay_5 (k := 2) rfl (Nat.le_of_ble_eq_true rfl) dX7_addDraft_33 w_154 ?_
    refine ev_aload_n 0 dX7_addDraft_36 rfl ?_
    refine ev_get G7 lay_5 (k := 4) rfl (Nat.le_of_ble_eq_true rfl) dX7_addDraft_37 w_156 ?_
    have hb40 := h.1
    replace h := h.2
    refine ev_aald (b := 8) lay_7 (Nat.le_of_ble_eq_true rfl) hb40 dX7_addDraft_40 ?_
    refine ev_iload_n 2 dX7_addDraft_41 rfl ?_
    refine ev_aload_n 0 dX7_addDraft_42 rfl ?_
    refine ev_getR (r := 6) G7 lay_5 (k := 1) rfl (Nat.le_of_ble_eq_true rfl) dX7_addDraft_43 w_153 ?_
    refine ev_iload_n 2 dX7_addDraft_46 rfl ?_
    have hb47 := h.1
    replace h := h.2
    refine ev_iald lay_6 (Nat.le_of_ble_eq_true rfl) hb47 dX7_addDraft_47 ?_
    have hb48 := h.1
    replace h := h.2
    refine ev_iast (layr_8 _ (Nat.not_le.mp fun q9 => hb40 (Or.inr q9))).1 (layr_8 _ (Nat.not_le.mp fun q9 => hb40 (Or.inr q9))).2 hb48 dX7_addDraft_48 ?_
    refine ev_iinc (lv' := [(2, .int (x2 + 1)), (0, .ref 5), (1, .int x1)]) (x2 + 1) 2 dX7_addDraft_49 rfl rfl (Nat.le_of_ble_eq_true rfl) rfl ?_
    refine ev_goto 27 dX7_addDraft_52 (by decide) ?_
    refine ev_sub [1, 2, 0] rfl ?_
    exact h
abbrev KX7_dropLatest_25 (N : Nat) (σ : Sg) (Q : Option Value → Sg → Prop) (x1 : Int32) (x2 : Int32) : Prop := Ev N mX7_dropLatest 25 [(0, .ref 5), (1, .int x1), (2, .int x2)] [] σ Q
theorem EX7_dropLatest {N : Nat} {σ : Sg} {Q : Option Value → Sg → Prop} (h : (1 ≤ (σ.1 5 4) → KX7_dropLatest_25 N (u1 σ 5 4 ((σ.1 5 4) - 1)) Q 0 0) ∧ (¬ 1 ≤ (σ.1 5 4) → Q (some (.int (-4))) σ)) : EvM N mX7_dropLatest [.ref 5] σ Q := by
  refine ev_entry rfl (Nat.le_of_ble_eq_true rfl) (lv := [(0, .ref 5)]) rfl ?_
  refine ev_aload_n 0 dX7_dropLatest_0 rfl ?_
  refine ev_get G7 lay_5 (k := 4) rfl (Nat.le_of_ble_eq_true rfl) dX7_dropLatest_1 w_156 ?_
  refine ev_iconst 1 dX7_dropLatest_4 (by decide) ?_
  refine ev_icmp_ge 11 dX7_dropLatest_5 (by decide) (fun c9 => ?_) (fun c9 => ?_)
  · replace h := h.1 c9
    refine ev_aload_n 0 dX7_dropLatest_11 rfl ?_
    refine ev_dup dX7_dropLatest_12 rfl ?_
    refine ev_get G7 lay_5 (k := 4) rfl (Nat.le_of_ble_eq_true rfl) dX7_dropLatest_13 w_156 ?_
    refine ev_iconst 1 dX7_dropLatest_16 (by decide) ?_
    refine ev_isub dX7_dropLatest_17 ?_
    refine ev_put G7 lay_5 (k := 4) rfl (Nat.le_of_ble_eq_true rfl) rfl (by decide +kernel) dX7_dropLatest_18 w_156 ?_
    refine ev_iconst 0 dX7_dropLatest_21 (by decide) ?_
    refine ev_istore_n (lv' := [(1, .int 0), (0, .ref 5)]) dX7_dropLatest_22 (Nat.le_of_ble_eq_true rfl) rfl ?_
    refine ev_iconst 0 dX7_dropLatest_23 (by decide) ?_
    refine ev_istore_n (lv' := [(2, .int 0), (1, .int 0), (0, .ref 5)]) dX7_dropLatest_24 (Nat.le_of_ble_eq_true rfl) rfl ?_
    refine ev_sub [2, 1, 0] rfl ?_
    exact h
  · replace h := h.2 c9
    refine ev_bipush (-4) dX7_dropLatest_8 (by decide) ?_
    exact ev_iret rfl dX7_dropLatest_10 h
theorem BX7_dropLatest_25 {N : Nat} {σ : Sg} {Q : Option Value → Sg → Prop} {x1 : Int32} {x2 : Int32} (h : ((σ.1 5 9) ≤ x2 → Q (some (.int ((u1 σ 5 9 x1).1 5 4))) (u1 σ 5 9 x1)) ∧ (¬ (σ.1 5 9) ≤ x2 → vp_in x2 96 ∧ (((σ.1 5 4) ≤ (σ.1 17 (x2).toNatClampNeg) → KX7_dropLatest_25 N σ Q x1 (x2 + 1)) ∧ (¬ (σ.1 5 4) ≤ (σ.1 17 (x2).toNatClampNeg) → KX7_dropLatest_25 N σ Q (x1 + 1) (x2 + 1))))) : KX7_dropLatest_25 N σ Q x1 x2 := by
  refine ev_iload_n 2 dX7_dropLatest_25 rfl ?_
  refine ev_aload_n 0 dX7_dropLatest_26 rfl ?_
  refine ev_get G7 lay_5 (k := 9) rfl (Nat.le_of_ble_eq_true rfl) dX7_dropLatest_27 w_161 ?_
  refine ev_icmp_ge 55 dX7_dropLatest_30 (by decide) (fun c9 => ?_) (fun c9 => ?_)
  · replace h := h.1 c9
    refine ev_aload_n 0 dX7_dropLatest_55 rfl ?_
    refine ev_iload_n 1 dX7_dropLatest_56 rfl ?_
    refine ev_put G7 lay_5 (k := 9) rfl (Nat.le_of_ble_eq_true rfl) rfl (by decide +kernel) dX7_dropLatest_57 w_161 ?_
    refine ev_aload_n 0 dX7_dropLatest_60 rfl ?_
    refine ev_get G7 lay_5 (k := 4) rfl (Nat.le_of_ble_eq_true rfl) dX7_dropLatest_61 w_156 ?_
    exact ev_iret rfl dX7_dropLatest_64 h
  · replace h := h.2 c9
    refine ev_aload_n 0 dX7_dropLatest_33 rfl ?_
    refine ev_getR (r := 17) G7 lay_5 (k := 5) rfl (Nat.le_of_ble_eq_true rfl) dX7_dropLatest_34 w_157 ?_
    refine ev_iload_n 2 dX7_dropLatest_37 rfl ?_
    have hb38 := h.1
    replace h := h.2
    refine ev_iald lay_17 (Nat.le_of_ble_eq_true rfl) hb38 dX7_dropLatest_38 ?_
    refine ev_aload_n 0 dX7_dropLatest_39 rfl ?_
    refine ev_get G7 lay_5 (k := 4) rfl (Nat.le_of_ble_eq_true rfl) dX7_dropLatest_40 w_156 ?_
    refine ev_icmp_ge 49 dX7_dropLatest_43 (by decide) (fun c9 => ?_) (fun c9 => ?_)
    · replace h := h.1 c9
      refine ev_iinc (lv' := [(2, .int (x2 + 1)), (0, .ref 5), (1, .int x1)]) (x2 + 1) 2 dX7_dropLatest_49 rfl rfl (Nat.le_of_ble_eq_true rfl) rfl ?_
      refine ev_goto 25 dX7_dropLatest_52 (by decide) ?_
      refine ev_sub [1, 2, 0] rfl ?_
      exact h
    · replace h := h.2 c9
      refine ev_iinc (lv' := [(1, .int (x1 + 1)), (0, .ref 5), (2, .int x2)]) (x1 + 1) 1 dX7_dropLatest_46 rfl rfl (Nat.le_of_ble_eq_true rfl) rfl ?_
      refine ev_iinc (lv' := [(2, .int (x2 + 1)), (1, .int (x1 + 1)), (0, .ref 5)]) (x2 + 1) 2 dX7_dropLatest_49 rfl rfl (Nat.le_of_ble_eq_true rfl) rfl ?_
      refine ev_goto 25 dX7_dropLatest_52 (by decide) ?_
      refine ev_sub [2, 1, 0] rfl ?_
      exact h
theorem EX7_signAt {N : Nat} {σ : Sg} {Q : Option Value → Sg → Prop} {x1 : Int32} {x2 : Int32} (h : (x1 < 0 → Q (some (.int (-2))) σ) ∧ (¬ x1 < 0 → ((σ.1 5 4) ≤ x1 → Q (some (.int (-2))) σ) ∧ (¬ (σ.1 5 4) ≤ x1 → (x2 < 0 → Q (some (.int (-2))) σ) ∧ (¬ x2 < 0 → vp_in x1 8 ∧ ((x2 < (σ.1 16 (x1).toNatClampNeg) → vp_in x1 8 ∧ (vp_in x2 24 ∧ ((0 ≤ (σ.1 (8 + (x1).toNatClampNeg) (x2).toNatClampNeg) → EvM N mX2_signOf [.ref 1, .int (σ.1 (8 + (x1).toNatClampNeg) (x2).toNatClampNeg)] σ (fun r9 σ1 => ∃ v1, r9 = some (.int v1) ∧ (Q (some (.int v1)) σ1))) ∧ (¬ 0 ≤ (σ.1 (8 + (x1).toNatClampNeg) (x2).toNatClampNeg) → Q (some (.int (σ.1 (8 + (x1).toNatClampNeg) (x2).toNatClampNeg))) σ)))) ∧ (¬ x2 < (σ.1 16 (x1).toNatClampNeg) → Q (some (.int (-2))) σ)))))) : EvM (N + 1) mX7_signAt [.ref 5, .int x1, .int x2] σ Q := by
  refine ev_entry rfl (Nat.le_of_ble_eq_true rfl) (lv := [(0, .ref 5), (1, .int x1), (2, .int x2)]) rfl ?_
  refine ev_iload_n 1 dX7_signAt_0 rfl ?_
  refine ev_if_lt 26 dX7_signAt_1 (by decide) (fun c9 => ?_) (fun c9 => ?_)
  · replace h := h.1 c9
    refine ev_bipush (-2) dX7_signAt_26 (by decide) ?_
    exact ev_iret rfl dX7_signAt_28 h
  · replace h := h.2 c9
    refine ev_iload_n 1 dX7_signAt_4 rfl ?_
    refine ev_aload_n 0 dX7_signAt_5 rfl ?_
    refine ev_get G7 lay_5 (k := 4) rfl (Nat.le_of_ble_eq_true rfl) dX7_signAt_6 w_156 ?_
    refine ev_icmp_ge 26 dX7_signAt_9 (by decide) (fun c9 => ?_) (fun c9 => ?_)
    · replace h := h.1 c9
      refine ev_bipush (-2) dX7_signAt_26 (by decide) ?_
      exact ev_iret rfl dX7_signAt_28 h
    · replace h := h.2 c9
      refine ev_iload_n 2 dX7_signAt_12 rfl ?_
      refine ev_if_lt 26 dX7_signAt_13 (by decide) (fun c9 => ?_) (fun c9 => ?_)
      · replace h := h.1 c9
        refine ev_bipush (-2) dX7_signAt_26 (by decide) ?_
        exact ev_iret rfl dX7_signAt_28 h
      · replace h := h.2 c9
        refine ev_iload_n 2 dX7_signAt_16 rfl ?_
        refine ev_aload_n 0 dX7_signAt_17 rfl ?_
        refine ev_getR (r := 16) G7 lay_5 (k := 3) rfl (Nat.le_of_ble_eq_true rfl) dX7_signAt_18 w_155 ?_
        refine ev_iload_n 1 dX7_signAt_21 rfl ?_
        have hb22 := h.1
        replace h := h.2
        refine ev_iald lay_16 (Nat.le_of_ble_eq_true rfl) hb22 dX7_signAt_22 ?_
        refine ev_icmp_lt 29 dX7_signAt_23 (by decide) (fun c9 => ?_) (fun c9 => ?_)
        · replace h := h.1 c9
          refine ev_aload_n 0 dX7_signAt_29 rfl ?_
          refine ev_getR (r := 7) G7 lay_5 (k := 2) rfl (Nat.le_of_ble_eq_true rfl) dX7_signAt_30 w_154 ?_
          refine ev_iload_n 1 dX7_signAt_33 rfl ?_
          have hb34 := h.1
          replace h := h.2
          refine ev_aald (b := 8) lay_7 (Nat.le_of_ble_eq_true rfl) hb34 dX7_signAt_34 ?_
          refine ev_iload_n 2 dX7_signAt_35 rfl ?_
          have hb36 := h.1
          replace h := h.2
          refine ev_iald (layr_8 _ (Nat.not_le.mp fun q9 => hb34 (Or.inr q9))).1 (layr_8 _ (Nat.not_le.mp fun q9 => hb34 (Or.inr q9))).2 hb36 dX7_signAt_36 ?_
          refine ev_istore_n (lv' := [(3, .int (σ.1 (8 + (x1).toNatClampNeg) (x2).toNatClampNeg)), (0, .ref 5), (1, .int x1), (2, .int x2)]) dX7_signAt_37 (Nat.le_of_ble_eq_true rfl) rfl ?_
          refine ev_iload_n 0 dX7_signAt_38 rfl ?_
          refine ev_if_ge 46 dX7_signAt_39 (by decide) (fun c9 => ?_) (fun c9 => ?_)
          · replace h := h.1 c9
            refine ev_aload_n 1 dX7_signAt_46 rfl ?_
            refine ev_getR (r := 1) G7 lay_5 (k := 0) rfl (Nat.le_of_ble_eq_true rfl) dX7_signAt_47 w_152 ?_
            refine ev_iload_n 0 dX7_signAt_50 rfl ?_
            refine ev_callV (M' := mX2_signOf) [.int (σ.1 (8 + (x1).toNatClampNeg) (x2).toNatClampNeg)] vX2_signOf G2 lay_1 dX7_signAt_51 w_555 rfl rfl (Nat.le_of_ble_eq_true rfl) h ?_
            rintro r9 σ1 ⟨v1, rfl, h⟩
            exact ev_iret rfl dX7_signAt_54 h
          · replace h := h.2 c9
            refine ev_iload_n 0 dX7_signAt_42 rfl ?_
            refine ev_goto 54 dX7_signAt_43 (by decide) ?_
            exact ev_iret rfl dX7_signAt_54 h
        · replace h := h.2 c9
          refine ev_bipush (-2) dX7_signAt_26 (by decide) ?_
          exact ev_iret rfl dX7_signAt_28 h
abbrev KX7_findWords_4 (N : Nat) (σ : Sg) (Q : Option Value → Sg → Prop) (x1 : Int32) (x2 : Int32) (x3 : Int32) : Prop := Ev (N + 3) mX7_findWords 4 [(0, .ref 5), (1, .int x1), (2, .int x2), (3, .int x3)] [] σ Q
theorem EX7_findWords {N : Nat} {σ : Sg} {Q : Option Value → Sg → Prop} {x1 : Int32} (h : KX7_findWords_4 N σ Q x1 0 0) : EvM (N + 3) mX7_findWords [.ref 5, .int x1] σ Q := by
  refine ev_entry rfl (Nat.le_of_ble_eq_true rfl) (lv := [(0, .ref 5), (1, .int x1)]) rfl ?_
  refine ev_iconst 0 dX7_findWords_0 (by decide) ?_
  refine ev_istore_n (lv' := [(2, .int 0), (0, .ref 5), (1, .int x1)]) dX7_findWords_1 (Nat.le_of_ble_eq_true rfl) rfl ?_
  refine ev_iconst 0 dX7_findWords_2 (by decide) ?_
  refine ev_istore_n (lv' := [(3, .int 0), (2, .int 0), (0, .ref 5), (1, .int x1)]) dX7_findWords_3 (Nat.le_of_ble_eq_true rfl) rfl ?_
  refine ev_sub [2, 3, 1, 0] rfl ?_
  exact h
theorem BX7_findWords_4 {N : Nat} {σ : Sg} {Q : Option Value → Sg → Prop} {x1 : Int32} {x2 : Int32} {x3 : Int32} (h : vp_in x1 8 ∧ (((σ.1 16 (x1).toNatClampNeg) < x3 → Q none σ) ∧ (¬ (σ.1 16 (x1).toNatClampNeg) < x3 → EvM (N + 2) mX7_signAt [.ref 5, .int x1, .int x3] σ (fun r9 σ1 => ∃ v1, r9 = some (.int v1) ∧ ((v1 = (-2) → (x3 ≤ x2 → KX7_findWords_4 N σ1 Q x1 (x3 + 1) (x3 + 1)) ∧ (¬ x3 ≤ x2 → EvM (N + 2) mX7_addWord [.ref 5, .int x1, .int x2, .int (x3 - x2)] σ1 (fun r9 σ2 => r9 = none ∧ (KX7_findWords_4 N σ2 Q x1 (x3 + 1) (x3 + 1))))) ∧ (¬ v1 = (-2) → KX7_findWords_4 N σ1 Q x1 x2 (x3 + 1))))))) : KX7_findWords_4 N σ Q x1 x2 x3 := by
  refine ev_iload_n 3 dX7_findWords_4 rfl ?_
  refine ev_aload_n 0 dX7_findWords_5 rfl ?_
  refine ev_getR (r := 16) G7 lay_5 (k := 3) rfl (Nat.le_of_ble_eq_true rfl) dX7_findWords_6 w_155 ?_
  refine ev_iload_n 1 dX7_findWords_9 rfl ?_
  have hb10 := h.1
  replace h := h.2
  refine ev_iald lay_16 (Nat.le_of_ble_eq_true rfl) hb10 dX7_findWords_10 ?_
  refine ev_icmp_gt 52 dX7_findWords_11 (by decide) (fun c9 => ?_) (fun c9 => ?_)
  · replace h := h.1 c9
    exact ev_vret rfl dX7_findWords_52 h
  · replace h := h.2 c9
    refine ev_aload_n 0 dX7_findWords_14 rfl ?_
    refine ev_iload_n 1 dX7_findWords_15 rfl ?_
    refine ev_iload_n 3 dX7_findWords_16 rfl ?_
    refine ev_callV (M' := mX7_signAt) [.int x1, .int x3] vX7_signAt G7 lay_5 dX7_findWords_17 w_551 rfl rfl (Nat.le_of_ble_eq_true rfl) h ?_
    rintro r9 σ1 ⟨v1, rfl, h⟩
    refine ev_bipush (-2) dX7_findWords_20 (by decide) ?_
    refine ev_icmp_eq 28 dX7_findWords_22 (by decide) (fun c9 => ?_) (fun c9 => ?_)
    · replace h := h.1 c9
      refine ev_iload_n 3 dX7_findWords_28 rfl ?_
      refine ev_iload_n 2 dX7_findWords_29 rfl ?_
      refine ev_icmp_le 42 dX7_findWords_30 (by decide) (fun c9 => ?_) (fun c9 => ?_)
      · replace h := h.1 c9
        refine ev_iload_n 3 dX7_findWords_42 rfl ?_
        refine ev_iconst 1 dX7_findWords_43 (by decide) ?_
        refine ev_iadd dX7_findWords_44 ?_
        refine ev_istore_n (lv' := [(2, .int (x3 + 1)), (0, .ref 5), (1, .int x1), (3, .int x3)]) dX7_findWords_45 (Nat.le_of_ble_eq_true rfl) rfl ?_
        refine ev_iinc (lv' := [(3, .int (x3 + 1)), (2, .int (x3 + 1)), (0, .ref 5), (1, .int x1)]) (x3 + 1) 3 dX7_findWords_46 rfl rfl (Nat.le_of_ble_eq_true rfl) rfl ?_
        refine ev_goto 4 dX7_findWords_49 (by decide) ?_
        refine ev_sub [2, 3, 1, 0] rfl ?_
        exact h
      · replace h := h.2 c9
        refine ev_aload_n 0 dX7_findWords_33 rfl ?_
        refine ev_iload_n 1 dX7_findWords_34 rfl ?_
        refine ev_iload_n 2 dX7_findWords_35 rfl ?_
        refine ev_iload_n 3 dX7_findWords_36 rfl ?_
        refine ev_iload_n 2 dX7_findWords_37 rfl ?_
        refine ev_isub dX7_findWords_38 ?_
        refine ev_callV (M' := mX7_addWord) [.int x1, .int x2, .int (x3 - x2)] vX7_addWord G7 lay_5 dX7_findWords_39 w_556 rfl rfl (Nat.le_of_ble_eq_true rfl) h ?_
        rintro r9 σ2 ⟨rfl, h⟩
        refine ev_iload_n 3 dX7_findWords_42 rfl ?_
        refine ev_iconst 1 dX7_findWords_43 (by decide) ?_
        refine ev_iadd dX7_findWords_44 ?_
        refine ev_istore_n (lv' := [(2, .int (x3 + 1)), (0, .ref 5), (1, .int x1), (3, .int x3)]) dX7_findWords_45 (Nat.le_of_ble_eq_true rfl) rfl ?_
        refine ev_iinc (lv' := [(3, .int (x3 + 1)), (2, .int (x3 + 1)), (0, .ref 5), (1, .int x1)]) (x3 + 1) 3 dX7_findWords_46 rfl rfl (Nat.le_of_ble_eq_true rfl) rfl ?_
        refine ev_goto 4 dX7_findWords_49 (by decide) ?_
        refine ev_sub [2, 3, 1, 0] rfl ?_
        exact h
    · replace h := h.2 c9
      refine ev_goto 46 dX7_findWords_25 (by decide) ?_
      refine ev_iinc (lv' := [(3, .int (x3 + 1)), (0, .ref 5), (1, .int x1), (2, .int x2)]) (x3 + 1) 3 dX7_findWords_46 rfl rfl (Nat.le_of_ble_eq_true rfl) rfl ?_
      refine ev_goto 4 dX7_findWords_49 (by decide) ?_
      refine ev_sub [1, 2, 3, 0] rfl ?_
      exact h
abbrev KX7_addWord_53 (N : Nat) (σ : Sg) (Q : Option Value → Sg → Prop) (x1 : Int32) (x2 : Int32) (x3 : Int32) (x4 : Int32) : Prop := Ev (N + 2) mX7_addWord 53 [(0, .ref 5), (1, .int x1), (2, .int x2), (3, .int x3), (4, .int x4)] [] σ Q
theorem EX7_addWord {N : Nat} {σ : Sg} {Q : Option Value → Sg → Prop} {x1 : Int32} {x2 : Int32} {x3 : Int32} (h : ((σ.1 5 9) < 96 → vp_in (σ.1 5 9) 96 ∧ (vp_in ((u1 σ 17 (σ.1 5 9).toNatClampNeg x1).1 5 9) 96 ∧ (vp_in ((u1 (u1 σ 17 (σ.1 5 9).toNatClampNeg x1) 18 ((u1 σ 17 (σ.1 5 9).toNatClampNeg x1).1 5 9).toNatClampNeg x2).1 5 9) 96 ∧ (vp_in ((u1 (u1 (u1 σ 17 (σ.1 5 9).toNatClampNeg x1) 18 ((u1 σ 17 (σ.1 5 9).toNatClampNeg x1).1 5 9).toNatClampNeg x2) 19 ((u1 (u1 σ 17 (σ.1 5 9).toNatClampNeg x1) 18 ((u1 σ 17 (σ.1 5 9).toNatClampNeg x1).1 5 9).toNatClampNeg x2).1 5 9).toNatClampNeg x3).1 5 9) 96 ∧ (KX7_addWord_53 N (u1 (u1 (u1 (u1 σ 17 (σ.1 5 9).toNatClampNeg x1) 18 ((u1 σ 17 (σ.1 5 9).toNatClampNeg x1).1 5 9).toNatClampNeg x2) 19 ((u1 (u1 σ 17 (σ.1 5 9).toNatClampNeg x1) 18 ((u1 σ 17 (σ.1 5 9).toNatClampNeg x1).1 5 9).toNatClampNeg x2).1 5 9).toNatClampNeg x3) 20 ((u1 (u1 (u1 σ 17 (σ.1 5 9).toNatClampNeg x1) 18 ((u1 σ 17 (σ.1 5 9).toNatClampNeg x1).1 5 9).toNatClampNeg x2) 19 ((u1 (u1 σ 17 (σ.1 5 9).toNatClampNeg x1) 18 ((u1 σ 17 (σ.1 5 9).toNatClampNeg x1).1 5 9).toNatClampNeg x2).1 5 9).toNatClampNeg x3).1 5 9).toNatClampNeg (vp_nar .boolean 1)) Q x1 x2 x3 0))))) ∧ (¬ (σ.1 5 9) < 96 → Q none σ)) : EvM (N + 2) mX7_addWord [.ref 5, .int x1, .int x2, .int x3] σ Q := by
  refine ev_entry rfl (Nat.le_of_ble_eq_true rfl) (lv := [(0, .ref 5), (1, .int x1), (2, .int x2), (3, .int x3)]) rfl ?_
  refine ev_aload_n 0 dX7_addWord_0 rfl ?_
  refine ev_get G7 lay_5 (k := 9) rfl (Nat.le_of_ble_eq_true rfl) dX7_addWord_1 w_161 ?_
  refine ev_bipush 96 dX7_addWord_4 (by decide) ?_
  refine ev_icmp_lt 10 dX7_addWord_6 (by decide) (fun c9 => ?_) (fun c9 => ?_)
  · replace h := h.1 c9
    refine ev_aload_n 0 dX7_addWord_10 rfl ?_
    refine ev_getR (r := 17) G7 lay_5 (k := 5) rfl (Nat.le_of_ble_eq_true rfl) dX7_addWord_11 w_157 ?_
    refine ev_aload_n 0 dX7_addWord_14 rfl ?_
    refine ev_get G7 lay_5 (k := 9) rfl (Nat.le_of_ble_eq_true rfl) dX7_addWord_15 w_161 ?_
    refine ev_iload_n 1 dX7_addWord_18 rfl ?_
    have hb19 := h.1
    replace h := h.2
    refine ev_iast lay_17 (Nat.le_of_ble_eq_true rfl) hb19 dX7_addWord_19 ?_
    refine ev_aload_n 0 dX7_addWord_20 rfl ?_
    refine ev_getR (r := 18) G7 lay_5 (k := 6) rfl (Nat.le_of_ble_eq_true rfl) dX7_addWord_21 w_158 ?_
    refine ev_aload_n 0 dX7_addWord_24 rfl ?_
    refine ev_get G7 lay_5 (k := 9) rfl (Nat.le_of_ble_eq_true rfl) dX7_addWord_25 w_161 ?_
    refine ev_iload_n 2 dX7_addWord_28 rfl ?_
    have hb29 := h.1
    replace h := h.2
    refine ev_iast lay_18 (Nat.le_of_ble_eq_true rfl) hb29 dX7_addWord_29 ?_
    refine ev_aload_n 0 dX7_addWord_30 rfl ?_
    refine ev_getR (r := 19) G7 lay_5 (k := 7) rfl (Nat.le_of_ble_eq_true rfl) dX7_addWord_31 w_159 ?_
    refine ev_aload_n 0 dX7_addWord_34 rfl ?_
    refine ev_get G7 lay_5 (k := 9) rfl (Nat.le_of_ble_eq_true rfl) dX7_addWord_35 w_161 ?_
    refine ev_iload_n 3 dX7_addWord_38 rfl ?_
    have hb39 := h.1
    replace h := h.2
    refine ev_iast lay_19 (Nat.le_of_ble_eq_true rfl) hb39 dX7_addWord_39 ?_
    refine ev_aload_n 0 dX7_addWord_40 rfl ?_
    refine ev_getR (r := 20) G7 lay_5 (k := 8) rfl (Nat.le_of_ble_eq_true rfl) dX7_addWord_41 w_160 ?_
    refine ev_aload_n 0 dX7_addWord_44 rfl ?_
    refine ev_get G7 lay_5 (k := 9) rfl (Nat.le_of_ble_eq_true rfl) dX7_addWord_45 w_161 ?_
    refine ev_iconst 1 dX7_addWord_48 (by decide) ?_
    have hb49 := h.1
    replace h := h.2
    refine ev_zast lay_20 (Nat.le_of_ble_eq_true rfl) hb49 dX7_addWord_49 ?_
    refine ev_iconst 0 dX7_addWord_50 (by decide) ?_
    refine ev_istore (lv' := [(4, .int 0), (0, .ref 5), (1, .int x1), (2, .int x2), (3, .int x3)]) dX7_addWord_51 (Nat.le_of_ble_eq_true rfl) rfl ?_
    refine ev_sub [1, 2, 3, 4, 0] rfl ?_
    exact h
  · replace h := h.2 c9
    exact ev_vret rfl dX7_addWord_9 h
theorem BX7_addWord_53 {N : Nat} {σ : Sg} {Q : Option Value → Sg → Prop} {x1 : Int32} {x2 : Int32} {x3 : Int32} {x4 : Int32} (h : (x3 ≤ x4 → Q none (u1 σ 5 9 ((σ.1 5 9) + 1))) ∧ (¬ x3 ≤ x4 → EvM (N + 1) mX7_signAt [.ref 5, .int x1, .int (x2 + x4)] σ (fun r9 σ1 => ∃ v1, r9 = some (.int v1) ∧ ((v1 = (-1) → vp_in (σ1.1 5 9) 96 ∧ (KX7_addWord_53 N (u1 σ1 20 (σ1.1 5 9).toNatClampNeg (vp_nar .boolean 0)) Q x1 x2 x3 (x4 + 1))) ∧ (¬ v1 = (-1) → KX7_addWord_53 N σ1 Q x1 x2 x3 (x4 + 1)))))) : KX7_addWord_53 N σ Q x1 x2 x3 x4 := by
  refine ev_iload 4 dX7_addWord_53 rfl ?_
  refine ev_iload_n 3 dX7_addWord_55 rfl ?_
  refine ev_icmp_ge 88 dX7_addWord_56 (by decide) (fun c9 => ?_) (fun c9 => ?_)
  · replace h := h.1 c9
    refine ev_aload_n 0 dX7_addWord_88 rfl ?_
    refine ev_dup dX7_addWord_89 rfl ?_
    refine ev_get G7 lay_5 (k := 9) rfl (Nat.le_of_ble_eq_true rfl) dX7_addWord_90 w_161 ?_
    refine ev_iconst 1 dX7_addWord_93 (by decide) ?_
    refine ev_iadd dX7_addWord_94 ?_
    refine ev_put G7 lay_5 (k := 9) rfl (Nat.le_of_ble_eq_true rfl) rfl (by decide +kernel) dX7_addWord_95 w_161 ?_
    exact ev_vret rfl dX7_addWord_98 h
  · replace h := h.2 c9
    refine ev_aload_n 0 dX7_addWord_59 rfl ?_
    refine ev_iload_n 1 dX7_addWord_60 rfl ?_
    refine ev_iload_n 2 dX7_addWord_61 rfl ?_
    refine ev_iload 4 dX7_addWord_62 rfl ?_
    refine ev_iadd dX7_addWord_64 ?_
    refine ev_callV (M' := mX7_signAt) [.int x1, .int (x2 + x4)] vX7_signAt G7 lay_5 dX7_addWord_65 w_551 rfl rfl (Nat.le_of_ble_eq_true rfl) h ?_
    rintro r9 σ1 ⟨v1, rfl, h⟩
    refine ev_iconst (-1) dX7_addWord_68 (by decide) ?_
    refine ev_icmp_ne 82 dX7_addWord_69 (by decide) (fun c9 => ?_) (fun c9 => ?_)
    · replace h := h.2 c9
      refine ev_iinc (lv' := [(4, .int (x4 + 1)), (0, .ref 5), (1, .int x1), (2, .int x2), (3, .int x3)]) (x4 + 1) 4 dX7_addWord_82 rfl rfl (Nat.le_of_ble_eq_true rfl) rfl ?_
      refine ev_goto 53 dX7_addWord_85 (by decide) ?_
      refine ev_sub [1, 2, 3, 4, 0] rfl ?_
      exact h
    · replace h := h.1 c9
      refine ev_aload_n 0 dX7_addWord_72 rfl ?_
      refine ev_getR (r := 20) G7 lay_5 (k := 8) rfl (Nat.le_of_ble_eq_true rfl) dX7_addWord_73 w_160 ?_
      refine ev_aload_n 0 dX7_addWord_76 rfl ?_
      refine ev_get G7 lay_5 (k := 9) rfl (Nat.le_of_ble_eq_true rfl) dX7_addWord_77 w_161 ?_
      refine ev_iconst 0 dX7_addWord_80 (by decide) ?_
      have hb81 := h.1
      replace h := h.2
      refine ev_zast lay_20 (Nat.le_of_ble_eq_true rfl) hb81 dX7_addWord_81 ?_
      refine ev_iinc (lv' := [(4, .int (x4 + 1)), (0, .ref 5), (1, .int x1), (2, .int x2), (3, .int x3)]) (x4 + 1) 4 dX7_addWord_82 rfl rfl (Nat.le_of_ble_eq_true rfl) rfl ?_
      refine ev_goto 53 dX7_addWord_85 (by decide) ?_
      refine ev_sub [1, 2, 3, 4, 0] rfl ?_
      exact h
theorem EX7_isWhole {N : Nat} {σ : Sg} {Q : Option Value → Sg → Prop} {x1 : Int32} (h : ((0 ≤ (x1).toInt ∧ (x1).toInt < (σ.1 5 9).toInt) → vp_in x1 96 ∧ (((σ.1 20 (x1).toNatClampNeg) = 0 → Q (some (.int 0)) σ) ∧ (¬ (σ.1 20 (x1).toNatClampNeg) = 0 → Q (some (.int 1)) σ))) ∧ (¬ (0 ≤ (x1).toInt ∧ (x1).toInt < (σ.1 5 9).toInt) → Q (some (.int 0)) σ)) : EvM (N + 1) mX7_isWhole [.ref 5, .int x1] σ Q := by
  refine ev_entry rfl (Nat.le_of_ble_eq_true rfl) (lv := [(0, .ref 5), (1, .int x1)]) rfl ?_
  refine ev_aload_n 0 dX7_isWhole_0 rfl ?_
  refine ev_iload_n 1 dX7_isWhole_1 rfl ?_
  refine ev_callV (M' := mX7_isWord) [.int x1] vX7_isWord G7 lay_5 dX7_isWhole_2 w_596 rfl rfl (Nat.le_of_ble_eq_true rfl) (C7_isWord (Q := fun r9 s9 => σ = s9 ∧ ((r9 = some (.int 1) ∧ (0 ≤ (x1).toInt ∧ (x1).toInt < (σ.1 5 9).toInt)) ∨ (r9 = some (.int 0) ∧ ¬ (0 ≤ (x1).toInt ∧ (x1).toInt < (σ.1 5 9).toInt)))) ⟨fun c9 => ⟨rfl, Or.inl ⟨rfl, c9⟩⟩, fun c9 => ⟨rfl, Or.inr ⟨rfl, c9⟩⟩⟩) ?_
  rintro r9 s9 ⟨rfl, ⟨rfl, c9⟩ | ⟨rfl, c9⟩⟩
  · replace h := h.1 c9
    refine ev_if_eq 21 dX7_isWhole_5 (by decide) (fun c9 => ?_) (fun c9 => ?_)
    · exact absurd c9 (by decide)
    · refine ev_aload_n 0 dX7_isWhole_8 rfl ?_
      refine ev_getR (r := 20) G7 lay_5 (k := 8) rfl (Nat.le_of_ble_eq_true rfl) dX7_isWhole_9 w_160 ?_
      refine ev_iload_n 1 dX7_isWhole_12 rfl ?_
      have hb13 := h.1
      replace h := h.2
      refine ev_zald lay_20 (Nat.le_of_ble_eq_true rfl) hb13 dX7_isWhole_13 ?_
      refine ev_if_eq 21 dX7_isWhole_14 (by decide) (fun c9 => ?_) (fun c9 => ?_)
      · replace h := h.1 c9
        refine ev_iconst 0 dX7_isWhole_21 (by decide) ?_
        exact ev_zret (ty := .boolean) rfl (by rfl) dX7_isWhole_22 h
      · replace h := h.2 c9
        refine ev_iconst 1 dX7_isWhole_17 (by decide) ?_
        refine ev_goto 22 dX7_isWhole_18 (by decide) ?_
        exact ev_zret (ty := .boolean) rfl (by rfl) dX7_isWhole_22 h
  · replace h := h.2 c9
    refine ev_if_eq 21 dX7_isWhole_5 (by decide) (fun c9 => ?_) (fun c9 => ?_)
    · refine ev_iconst 0 dX7_isWhole_21 (by decide) ?_
      exact ev_zret (ty := .boolean) rfl (by rfl) dX7_isWhole_22 h
    · exact absurd c9 (by decide)
theorem EX7_textOfWord {N : Nat} {σ : Sg} {Q : Option Value → Sg → Prop} {x1 : Int32} (h : ((0 ≤ (x1).toInt ∧ (x1).toInt < (σ.1 5 9).toInt) → vp_in x1 96 ∧ (Q (some (.int (σ.1 17 (x1).toNatClampNeg))) σ)) ∧ (¬ (0 ≤ (x1).toInt ∧ (x1).toInt < (σ.1 5 9).toInt) → Q (some (.int (-4))) σ)) : EvM (N + 1) mX7_textOfWord [.ref 5, .int x1] σ Q := by
  refine ev_entry rfl (Nat.le_of_ble_eq_true rfl) (lv := [(0, .ref 5), (1, .int x1)]) rfl ?_
  refine ev_aload_n 0 dX7_textOfWord_0 rfl ?_
  refine ev_iload_n 1 dX7_textOfWord_1 rfl ?_
  refine ev_callV (M' := mX7_isWord) [.int x1] vX7_isWord G7 lay_5 dX7_textOfWord_2 w_596 rfl rfl (Nat.le_of_ble_eq_true rfl) (C7_isWord (Q := fun r9 s9 => σ = s9 ∧ ((r9 = some (.int 1) ∧ (0 ≤ (x1).toInt ∧ (x1).toInt < (σ.1 5 9).toInt)) ∨ (r9 = some (.int 0) ∧ ¬ (0 ≤ (x1).toInt ∧ (x1).toInt < (σ.1 5 9).toInt)))) ⟨fun c9 => ⟨rfl, Or.inl ⟨rfl, c9⟩⟩, fun c9 => ⟨rfl, Or.inr ⟨rfl, c9⟩⟩⟩) ?_
  rintro r9 s9 ⟨rfl, ⟨rfl, c9⟩ | ⟨rfl, c9⟩⟩
  · replace h := h.1 c9
    refine ev_if_eq 17 dX7_textOfWord_5 (by decide) (fun c9 => ?_) (fun c9 => ?_)
    · exact absurd c9 (by decide)
    · refine ev_aload_n 0 dX7_textOfWord_8 rfl ?_
      refine ev_getR (r := 17) G7 lay_5 (k := 5) rfl (Nat.le_of_ble_eq_true rfl) dX7_textOfWord_9 w_157 ?_
      refine ev_iload_n 1 dX7_textOfWord_12 rfl ?_
      have hb13 := h.1
      replace h := h.2
      refine ev_iald lay_17 (Nat.le_of_ble_eq_true rfl) hb13 dX7_textOfWord_13 ?_
      refine ev_goto 19 dX7_textOfWord_14 (by decide) ?_
      exact ev_iret rfl dX7_textOfWord_19 h
  · replace h := h.2 c9
    refine ev_if_eq 17 dX7_textOfWord_5 (by decide) (fun c9 => ?_) (fun c9 => ?_)
    · refine ev_bipush (-4) dX7_textOfWord_17 (by decide) ?_
      exact ev_iret rfl dX7_textOfWord_19 h
    · exact absurd c9 (by decide)
theorem EX7_lengthOfWord {N : Nat} {σ : Sg} {Q : Option Value → Sg → Prop} {x1 : Int32} (h : ((0 ≤ (x1).toInt ∧ (x1).toInt < (σ.1 5 9).toInt) → vp_in x1 96 ∧ (Q (some (.int (σ.1 19 (x1).toNatClampNeg))) σ)) ∧ (¬ (0 ≤ (x1).toInt ∧ (x1).toInt < (σ.1 5 9).toInt) → Q (some (.int 0)) σ)) : EvM (N + 1) mX7_lengthOfWord [.ref 5, .int x1] σ Q := by
  refine ev_entry rfl (Nat.le_of_ble_eq_true rfl) (lv := [(0, .ref 5), (1, .int x1)]) rfl ?_
  refine ev_aload_n 0 dX7_lengthOfWord_0 rfl ?_
  refine ev_iload_n 1 dX7_lengthOfWord_1 rfl ?_
  refine ev_callV (M' := mX7_isWord) [.int x1] vX7_isWord G7 lay_5 dX7_lengthOfWord_2 w_596 rfl rfl (Nat.le_of_ble_eq_true rfl) (C7_isWord (Q := fun r9 s9 => σ = s9 ∧ ((r9 = some (.int 1) ∧ (0 ≤ (x1).toInt ∧ (x1).toInt < (σ.1 5 9).toInt)) ∨ (r9 = some (.int 0) ∧ ¬ (0 ≤ (x1).toInt ∧ (x1).toInt < (σ.1 5 9).toInt)))) ⟨fun c9 => ⟨rfl, Or.inl ⟨rfl, c9⟩⟩, fun c9 => ⟨rfl, Or.inr ⟨rfl, c9⟩⟩⟩) ?_
  rintro r9 s9 ⟨rfl, ⟨rfl, c9⟩ | ⟨rfl, c9⟩⟩
  · replace h := h.1 c9
    refine ev_if_eq 17 dX7_lengthOfWord_5 (by decide) (fun c9 => ?_) (fun c9 => ?_)
    · exact absurd c9 (by decide)
    · refine ev_aload_n 0 dX7_lengthOfWord_8 rfl ?_
      refine ev_getR (r := 19) G7 lay_5 (k := 7) rfl (Nat.le_of_ble_eq_true rfl) dX7_lengthOfWord_9 w_159 ?_
      refine ev_iload_n 1 dX7_lengthOfWord_12 rfl ?_
      have hb13 := h.1
      replace h := h.2
      refine ev_iald lay_19 (Nat.le_of_ble_eq_true rfl) hb13 dX7_lengthOfWord_13 ?_
      refine ev_goto 18 dX7_lengthOfWord_14 (by decide) ?_
      exact ev_iret rfl dX7_lengthOfWord_18 h
  · replace h := h.2 c9
    refine ev_if_eq 17 dX7_lengthOfWord_5 (by decide) (fun c9 => ?_) (fun c9 => ?_)
    · refine ev_iconst 0 dX7_lengthOfWord_17 (by decide) ?_
      exact ev_iret rfl dX7_lengthOfWord_18 h
    · exact absurd c9 (by decide)
theorem EX7_signOfWord {N : Nat} {σ : Sg} {Q : Option Value → Sg → Prop} {x1 : Int32} {x2 : Int32} (h : ((0 ≤ (x1).toInt ∧ (x1).toInt < (σ.1 5 9).toInt) → vp_in x1 96 ∧ (vp_in x1 96 ∧ (EvM (N + 1) mX7_signAt [.ref 5, .int (σ.1 17 (x1).toNatClampNeg), .int ((σ.1 18 (x1).toNatClampNeg) + x2)] σ (fun r9 σ1 => ∃ v1, r9 = some (.int v1) ∧ (Q (some (.int v1)) σ1))))) ∧ (¬ (0 ≤ (x1).toInt ∧ (x1).toInt < (σ.1 5 9).toInt) → Q (some (.int (-2))) σ)) : EvM (N + 2) mX7_signOfWord [.ref 5, .int x1, .int x2] σ Q := by
  refine ev_entry rfl (Nat.le_of_ble_eq_true rfl) (lv := [(0, .ref 5), (1, .int x1), (2, .int x2)]) rfl ?_
  refine ev_aload_n 0 dX7_signOfWord_0 rfl ?_
  refine ev_iload_n 1 dX7_signOfWord_1 rfl ?_
  refine ev_callV (M' := mX7_isWord) [.int x1] vX7_isWord G7 lay_5 dX7_signOfWord_2 w_596 rfl rfl (Nat.le_of_ble_eq_true rfl) (C7_isWord (Q := fun r9 s9 => σ = s9 ∧ ((r9 = some (.int 1) ∧ (0 ≤ (x1).toInt ∧ (x1).toInt < (σ.1 5 9).toInt)) ∨ (r9 = some (.int 0) ∧ ¬ (0 ≤ (x1).toInt ∧ (x1).toInt < (σ.1 5 9).toInt)))) ⟨fun c9 => ⟨rfl, Or.inl ⟨rfl, c9⟩⟩, fun c9 => ⟨rfl, Or.inr ⟨rfl, c9⟩⟩⟩) ?_
  rintro r9 s9 ⟨rfl, ⟨rfl, c9⟩ | ⟨rfl, c9⟩⟩
  · replace h := h.1 c9
    refine ev_if_eq 29 dX7_signOfWord_5 (by decide) (fun c9 => ?_) (fun c9 => ?_)
    · exact absurd c9 (by decide)
    · refine ev_aload_n 0 dX7_signOfWord_8 rfl ?_
      refine ev_aload_n 0 dX7_signOfWord_9 rfl ?_
      refine ev_getR (r := 17) G7 lay_5 (k := 5) rfl (Nat.le_of_ble_eq_true rfl) dX7_signOfWord_10 w_157 ?_
      refine ev_iload_n 1 dX7_signOfWord_13 rfl ?_
      have hb14 := h.1
      replace h := h.2
      refine ev_iald lay_17 (Nat.le_of_ble_eq_true rfl) hb14 dX7_signOfWord_14 ?_
      refine ev_aload_n 0 dX7_signOfWord_15 rfl ?_
      refine ev_getR (r := 18) G7 lay_5 (k := 6) rfl (Nat.le_of_ble_eq_true rfl) dX7_signOfWord_16 w_158 ?_
      refine ev_iload_n 1 dX7_signOfWord_19 rfl ?_
      have hb20 := h.1
      replace h := h.2
      refine ev_iald lay_18 (Nat.le_of_ble_eq_true rfl) hb20 dX7_signOfWord_20 ?_
      refine ev_iload_n 2 dX7_signOfWord_21 rfl ?_
      refine ev_iadd dX7_signOfWord_22 ?_
      refine ev_callV (M' := mX7_signAt) [.int (σ.1 17 (x1).toNatClampNeg), .int ((σ.1 18 (x1).toNatClampNeg) + x2)] vX7_signAt G7 lay_5 dX7_signOfWord_23 w_551 rfl rfl (Nat.le_of_ble_eq_true rfl) h ?_
      rintro r9 σ1 ⟨v1, rfl, h⟩
      refine ev_goto 31 dX7_signOfWord_26 (by decide) ?_
      exact ev_iret rfl dX7_signOfWord_31 h
  · replace h := h.2 c9
    refine ev_if_eq 29 dX7_signOfWord_5 (by decide) (fun c9 => ?_) (fun c9 => ?_)
    · refine ev_bipush (-2) dX7_signOfWord_29 (by decide) ?_
      exact ev_iret rfl dX7_signOfWord_31 h
    · exact absurd c9 (by decide)
theorem EX7_lastSignOfWord {N : Nat} {σ : Sg} {Q : Option Value → Sg → Prop} {x1 : Int32} (h : EvM (N + 2) mX7_lengthOfWord [.ref 5, .int x1] σ (fun r9 σ1 => ∃ v1, r9 = some (.int v1) ∧ (EvM (N + 2) mX7_signOfWord [.ref 5, .int x1, .int (v1 - 1)] σ1 (fun r9 σ2 => ∃ v2, r9 = some (.int v2) ∧ (Q (some (.int v2)) σ2))))) : EvM (N + 3) mX7_lastSignOfWord [.ref 5, .int x1] σ Q := by
  refine ev_entry rfl (Nat.le_of_ble_eq_true rfl) (lv := [(0, .ref 5), (1, .int x1)]) rfl ?_
  refine ev_aload_n 0 dX7_lastSignOfWord_0 rfl ?_
  refine ev_iload_n 1 dX7_lastSignOfWord_1 rfl ?_
  refine ev_aload_n 0 dX7_lastSignOfWord_2 rfl ?_
  refine ev_iload_n 1 dX7_lastSignOfWord_3 rfl ?_
  refine ev_callV (M' := mX7_lengthOfWord) [.int x1] vX7_lengthOfWord G7 lay_5 dX7_lastSignOfWord_4 w_664 rfl rfl (Nat.le_of_ble_eq_true rfl) h ?_
  rintro r9 σ1 ⟨v1, rfl, h⟩
  refine ev_iconst 1 dX7_lastSignOfWord_7 (by decide) ?_
  refine ev_isub dX7_lastSignOfWord_8 ?_
  refine ev_callV (M' := mX7_signOfWord) [.int x1, .int (v1 - 1)] vX7_signOfWord G7 lay_5 dX7_lastSignOfWord_9 w_668 rfl rfl (Nat.le_of_ble_eq_true rfl) h ?_
  rintro r9 σ2 ⟨v2, rfl, h⟩
  exact ev_iret rfl dX7_lastSignOfWord_12 h
abbrev KX7_haveOneStem_35 (N : Nat) (σ : Sg) (Q : Option Value → Sg → Prop) (x1 : Int32) (x2 : Int32) (x3 : Int32) : Prop := Ev (N + 2) mX7_haveOneStem 35 [(0, .ref 5), (1, .int x1), (2, .int x2), (3, .int x3)] [] σ Q
theorem EX7_haveOneStem {N : Nat} {σ : Sg} {Q : Option Value → Sg → Prop} {x1 : Int32} {x2 : Int32} (h : ((0 ≤ (x1).toInt ∧ (x1).toInt < (σ.1 5 9).toInt) → ((0 ≤ (x2).toInt ∧ (x2).toInt < (σ.1 5 9).toInt) → vp_in x1 96 ∧ (vp_in x2 96 ∧ (((σ.1 19 (x1).toNatClampNeg) = (σ.1 19 (x2).toNatClampNeg) → KX7_haveOneStem_35 N σ Q x1 x2 0) ∧ (¬ (σ.1 19 (x1).toNatClampNeg) = (σ.1 19 (x2).toNatClampNeg) → Q (some (.int 0)) σ)))) ∧ (¬ (0 ≤ (x2).toInt ∧ (x2).toInt < (σ.1 5 9).toInt) → Q (some (.int 0)) σ)) ∧ (¬ (0 ≤ (x1).toInt ∧ (x1).toInt < (σ.1 5 9).toInt) → Q (some (.int 0)) σ)) : EvM (N + 2) mX7_haveOneStem [.ref 5, .int x1, .int x2] σ Q := by
  refine ev_entry rfl (Nat.le_of_ble_eq_true rfl) (lv := [(0, .ref 5), (1, .int x1), (2, .int x2)]) rfl ?_
  refine ev_aload_n 0 dX7_haveOneStem_0 rfl ?_
  refine ev_iload_n 1 dX7_haveOneStem_1 rfl ?_
  refine ev_callV (M' := mX7_isWord) [.int x1] vX7_isWord G7 lay_5 dX7_haveOneStem_2 w_596 rfl rfl (Nat.le_of_ble_eq_true rfl) (C7_isWord (Q := fun r9 s9 => σ = s9 ∧ ((r9 = some (.int 1) ∧ (0 ≤ (x1).toInt ∧ (x1).toInt < (σ.1 5 9).toInt)) ∨ (r9 = some (.int 0) ∧ ¬ (0 ≤ (x1).toInt ∧ (x1).toInt < (σ.1 5 9).toInt)))) ⟨fun c9 => ⟨rfl, Or.inl ⟨rfl, c9⟩⟩, fun c9 => ⟨rfl, Or.inr ⟨rfl, c9⟩⟩⟩) ?_
  rintro r9 s9 ⟨rfl, ⟨rfl, c9⟩ | ⟨rfl, c9⟩⟩
  · replace h := h.1 c9
    refine ev_if_eq 31 dX7_haveOneStem_5 (by decide) (fun c9 => ?_) (fun c9 => ?_)
    · exact absurd c9 (by decide)
    · refine ev_aload_n 0 dX7_haveOneStem_8 rfl ?_
      refine ev_iload_n 2 dX7_haveOneStem_9 rfl ?_
      refine ev_callV (M' := mX7_isWord) [.int x2] vX7_isWord G7 lay_5 dX7_haveOneStem_10 w_596 rfl rfl (Nat.le_of_ble_eq_true rfl) (C7_isWord (Q := fun r9 s9 => σ = s9 ∧ ((r9 = some (.int 1) ∧ (0 ≤ (x2).toInt ∧ (x2).toInt < (σ.1 5 9).toInt)) ∨ (r9 = some (.int 0) ∧ ¬ (0 ≤ (x2).toInt ∧ (x2).toInt < (σ.1 5 9).toInt)))) ⟨fun c9 => ⟨rfl, Or.inl ⟨rfl, c9⟩⟩, fun c9 => ⟨rfl, Or.inr ⟨rfl, c9⟩⟩⟩) ?_
      rintro r9 s9 ⟨rfl, ⟨rfl, c9⟩ | ⟨rfl, c9⟩⟩
      · replace h := h.1 c9
        refine ev_if_eq 31 dX7_haveOneStem_13 (by decide) (fun c9 => ?_) (fun c9 => ?_)
        · exact absurd c9 (by decide)
        · refine ev_aload_n 0 dX7_haveOneStem_16 rfl ?_
          refine ev_getR (r := 19) G7 lay_5 (k := 7) rfl (Nat.le_of_ble_eq_true rfl) dX7_haveOneStem_17 w_159 ?_
          refine ev_iload_n 1 dX7_haveOneStem_20 rfl ?_
          have hb21 := h.1
          replace h := h.2
          refine ev_iald lay_19 (Nat.le_of_ble_eq_true rfl) hb21 dX7_haveOneStem_21 ?_
          refine ev_aload_n 0 dX7_haveOneStem_22 rfl ?_
          refine ev_getR (r := 19) G7 lay_5 (k := 7) rfl (Nat.le_of_ble_eq_true rfl) dX7_haveOneStem_23 w_159 ?_
          refine ev_iload_n 2 dX7_haveOneStem_26 rfl ?_
          have hb27 := h.1
          replace h := h.2
          refine ev_iald lay_19 (Nat.le_of_ble_eq_true rfl) hb27 dX7_haveOneStem_27 ?_
          refine ev_icmp_eq 33 dX7_haveOneStem_28 (by decide) (fun c9 => ?_) (fun c9 => ?_)
          · replace h := h.1 c9
            refine ev_iconst 0 dX7_haveOneStem_33 (by decide) ?_
            refine ev_istore_n (lv' := [(3, .int 0), (0, .ref 5), (1, .int x1), (2, .int x2)]) dX7_haveOneStem_34 (Nat.le_of_ble_eq_true rfl) rfl ?_
            refine ev_sub [1, 2, 3, 0] rfl ?_
            exact h
          · replace h := h.2 c9
            refine ev_iconst 0 dX7_haveOneStem_31 (by decide) ?_
            exact ev_zret (ty := .boolean) rfl (by rfl) dX7_haveOneStem_32 h
      · replace h := h.2 c9
        refine ev_if_eq 31 dX7_haveOneStem_13 (by decide) (fun c9 => ?_) (fun c9 => ?_)
        · refine ev_iconst 0 dX7_haveOneStem_31 (by decide) ?_
          exact ev_zret (ty := .boolean) rfl (by rfl) dX7_haveOneStem_32 h
        · exact absurd c9 (by decide)
  · replace h := h.2 c9
    refine ev_if_eq 31 dX7_haveOneStem_5 (by decide) (fun c9 => ?_) (fun c9 => ?_)
    · refine ev_iconst 0 dX7_haveOneStem_31 (by decide) ?_
      exact ev_zret (ty := .boolean) rfl (by rfl) dX7_haveOneStem_32 h
    · exact absurd c9 (by decide)
theorem BX7_haveOneStem_35 {N : Nat} {σ : Sg} {Q : Option Value → Sg → Prop} {x1 : Int32} {x2 : Int32} {x3 : Int32} (h : vp_in x1 96 ∧ ((((σ.1 19 (x1).toNatClampNeg) - 1) ≤ x3 → Q (some (.int 1)) σ) ∧ (¬ ((σ.1 19 (x1).toNatClampNeg) - 1) ≤ x3 → vp_in x1 96 ∧ (vp_in x1 96 ∧ (EvM (N + 1) mX7_signAt [.ref 5, .int (σ.1 17 (x1).toNatClampNeg), .int ((σ.1 18 (x1).toNatClampNeg) + x3)] σ (fun r9 σ1 => ∃ v1, r9 = some (.int v1) ∧ (vp_in x2 96 ∧ (vp_in x2 96 ∧ (EvM (N + 1) mX7_signAt [.ref 5, .int (σ1.1 17 (x2).toNatClampNeg), .int ((σ1.1 18 (x2).toNatClampNeg) + x3)] σ1 (fun r9 σ2 => ∃ v2, r9 = some (.int v2) ∧ ((v2 = v1 → KX7_haveOneStem_35 N σ2 Q x1 x2 (x3 + 1)) ∧ (¬ v2 = v1 → Q (some (.int 0)) σ2)))))))))))) : KX7_haveOneStem_35 N σ Q x1 x2 x3 := by
  refine ev_iload_n 3 dX7_haveOneStem_35 rfl ?_
  refine ev_aload_n 0 dX7_haveOneStem_36 rfl ?_
  refine ev_getR (r := 19) G7 lay_5 (k := 7) rfl (Nat.le_of_ble_eq_true rfl) dX7_haveOneStem_37 w_159 ?_
  refine ev_iload_n 1 dX7_haveOneStem_40 rfl ?_
  have hb41 := h.1
  replace h := h.2
  refine ev_iald lay_19 (Nat.le_of_ble_eq_true rfl) hb41 dX7_haveOneStem_41 ?_
  refine ev_iconst 1 dX7_haveOneStem_42 (by decide) ?_
  refine ev_isub dX7_haveOneStem_43 ?_
  refine ev_icmp_ge 98 dX7_haveOneStem_44 (by decide) (fun c9 => ?_) (fun c9 => ?_)
  · replace h := h.1 c9
    refine ev_iconst 1 dX7_haveOneStem_98 (by decide) ?_
    exact ev_zret (ty := .boolean) rfl (by rfl) dX7_haveOneStem_99 h
  · replace h := h.2 c9
    refine ev_aload_n 0 dX7_haveOneStem_47 rfl ?_
    refine ev_aload_n 0 dX7_haveOneStem_48 rfl ?_
    refine ev_getR (r := 17) G7 lay_5 (k := 5) rfl (Nat.le_of_ble_eq_true rfl) dX7_haveOneStem_49 w_157 ?_
    refine ev_iload_n 1 dX7_haveOneStem_52 rfl ?_
    have hb53 := h.1
    replace h := h.2
    refine ev_iald lay_17 (Nat.le_of_ble_eq_true rfl) hb53 dX7_haveOneStem_53 ?_
    refine ev_aload_n 0 dX7_haveOneStem_54 rfl ?_
    refine ev_getR (r := 18) G7 lay_5 (k := 6) rfl (Nat.le_of_ble_eq_true rfl) dX7_haveOneStem_55 w_158 ?_
    refine ev_iload_n 1 dX7_haveOneStem_58 rfl ?_
    have hb59 := h.1
    replace h := h.2
    refine ev_iald lay_18 (Nat.le_of_ble_eq_true rfl) hb59 dX7_haveOneStem_59 ?_
    refine ev_iload_n 3 dX7_haveOneStem_60 rfl ?_
    refine ev_iadd dX7_haveOneStem_61 ?_
    refine ev_callV (M' := mX7_signAt) [.int (σ.1 17 (x1).toNatClampNeg), .int ((σ.1 18 (x1).toNatClampNeg) + x3)] vX7_signAt G7 lay_5 dX7_haveOneStem_62 w_551 rfl rfl (Nat.le_of_ble_eq_true rfl) h ?_
    rintro r9 σ1 ⟨v1, rfl, h⟩
    refine ev_istore (lv' := [(4, .int v1), (0, .ref 5), (1, .int x1), (2, .int x2), (3, .int x3)]) dX7_haveOneStem_65 (Nat.le_of_ble_eq_true rfl) rfl ?_
    refine ev_aload_n 1 dX7_haveOneStem_67 rfl ?_
    refine ev_aload_n 1 dX7_haveOneStem_68 rfl ?_
    refine ev_getR (r := 17) G7 lay_5 (k := 5) rfl (Nat.le_of_ble_eq_true rfl) dX7_haveOneStem_69 w_157 ?_
    refine ev_iload_n 3 dX7_haveOneStem_72 rfl ?_
    have hb73 := h.1
    replace h := h.2
    refine ev_iald lay_17 (Nat.le_of_ble_eq_true rfl) hb73 dX7_haveOneStem_73 ?_
    refine ev_aload_n 1 dX7_haveOneStem_74 rfl ?_
    refine ev_getR (r := 18) G7 lay_5 (k := 6) rfl (Nat.le_of_ble_eq_true rfl) dX7_haveOneStem_75 w_158 ?_
    refine ev_iload_n 3 dX7_haveOneStem_78 rfl ?_
    have hb79 := h.1
    replace h := h.2
    refine ev_iald lay_18 (Nat.le_of_ble_eq_true rfl) hb79 dX7_haveOneStem_79 ?_
    refine ev_iload_n 4 dX7_haveOneStem_80 rfl ?_
    refine ev_iadd dX7_haveOneStem_81 ?_
    refine ev_callV (M' := mX7_signAt) [.int (σ1.1 17 (x2).toNatClampNeg), .int ((σ1.1 18 (x2).toNatClampNeg) + x3)] vX7_signAt G7 lay_5 dX7_haveOneStem_82 w_551 rfl rfl (Nat.le_of_ble_eq_true rfl) h ?_
    rintro r9 σ2 ⟨v2, rfl, h⟩
    refine ev_iload 0 dX7_haveOneStem_85 rfl ?_
    refine ev_icmp_eq 92 dX7_haveOneStem_87 (by decide) (fun c9 => ?_) (fun c9 => ?_)
    · replace h := h.1 c9
      refine ev_iinc (lv' := [(3, .int (x3 + 1)), (4, .int v1), (0, .ref 5), (1, .int x1), (2, .int x2)]) (x3 + 1) 4 dX7_haveOneStem_92 rfl rfl (Nat.le_of_ble_eq_true rfl) rfl ?_
      refine ev_goto 35 dX7_haveOneStem_95 (by decide) ?_
      refine ev_sub [2, 3, 4, 0] rfl ?_
      exact h
    · replace h := h.2 c9
      refine ev_iconst 0 dX7_haveOneStem_90 (by decide) ?_
      exact ev_zret (ty := .boolean) rfl (by rfl) dX7_haveOneStem_91 h
theorem EX7_tell {N : Nat} {σ : Sg} {Q : Option Value → Sg → Prop} {x1 : Int32} {x2 : Int32} (h : ((0 ≤ (x1).toInt ∧ (x1).toInt < (σ.1 5 4).toInt) → (x2 = 0 → vp_in x1 8 ∧ (Q (some (.int (σ.1 16 (x1).toNatClampNeg))) σ)) ∧ (x2 = 1 → vp_in x1 8 ∧ (EvM (N + 2) mX7_cellsLike [.ref 5, .int x1, .int (-1)] σ (fun r9 σ1 => ∃ v1, r9 = some (.int v1) ∧ (EvM (N + 2) mX7_cellsLike [.ref 5, .int x1, .int (-2)] σ1 (fun r9 σ2 => ∃ v2, r9 = some (.int v2) ∧ (Q (some (.int (((σ.1 16 (x1).toNatClampNeg) - v1) - v2))) σ2)))))) ∧ (x2 = 2 → EvM (N + 2) mX7_cellsLike [.ref 5, .int x1, .int (-1)] σ (fun r9 σ3 => ∃ v3, r9 = some (.int v3) ∧ (Q (some (.int v3)) σ3))) ∧ (x2 = 3 → EvM (N + 2) mX7_wordsIn [.ref 5, .int x1, .int 0] σ (fun r9 σ4 => ∃ v4, r9 = some (.int v4) ∧ (Q (some (.int v4)) σ4))) ∧ (x2 = 4 → EvM (N + 2) mX7_wordsIn [.ref 5, .int x1, .int 1] σ (fun r9 σ5 => ∃ v5, r9 = some (.int v5) ∧ (Q (some (.int v5)) σ5))) ∧ (x2 = 5 → EvM (N + 2) mX7_longestWhole [.ref 5, .int x1] σ (fun r9 σ6 => ∃ v6, r9 = some (.int v6) ∧ (Q (some (.int v6)) σ6))) ∧ (¬ x2 = 0 → ¬ x2 = 1 → ¬ x2 = 2 → ¬ x2 = 3 → ¬ x2 = 4 → ¬ x2 = 5 → (x2 < 10 → Q (some (.int (-10))) σ) ∧ (¬ x2 < 10 → vp_in x1 8 ∧ (((10 + (σ.1 16 (x1).toNatClampNeg)) ≤ x2 → Q (some (.int (-10))) σ) ∧ (¬ (10 + (σ.1 16 (x1).toNatClampNeg)) ≤ x2 → EvM (N + 2) mX7_signAt [.ref 5, .int x1, .int (x2 - 10)] σ (fun r9 σ7 => ∃ v7, r9 = some (.int v7) ∧ (Q (some (.int v7)) σ7))))))) ∧ (¬ (0 ≤ (x1).toInt ∧ (x1).toInt < (σ.1 5 4).toInt) → Q (some (.int (-10))) σ)) : EvM (N + 3) mX7_tell [.ref 5, .int x1, .int x2] σ Q := by
  refine ev_entry rfl (Nat.le_of_ble_eq_true rfl) (lv := [(0, .ref 5), (1, .int x1), (2, .int x2)]) rfl ?_
  refine ev_aload_n 0 dX7_tell_0 rfl ?_
  refine ev_iload_n 1 dX7_tell_1 rfl ?_
  refine ev_callV (M' := mX7_isText) [.int x1] vX7_isText G7 lay_5 dX7_tell_2 w_576 rfl rfl (Nat.le_of_ble_eq_true rfl) (C7_isText (Q := fun r9 s9 => σ = s9 ∧ ((r9 = some (.int 1) ∧ (0 ≤ (x1).toInt ∧ (x1).toInt < (σ.1 5 4).toInt)) ∨ (r9 = some (.int 0) ∧ ¬ (0 ≤ (x1).toInt ∧ (x1).toInt < (σ.1 5 4).toInt)))) ⟨fun c9 => ⟨rfl, Or.inl ⟨rfl, c9⟩⟩, fun c9 => ⟨rfl, Or.inr ⟨rfl, c9⟩⟩⟩) ?_
  rintro r9 s9 ⟨rfl, ⟨rfl, c9⟩ | ⟨rfl, c9⟩⟩
  · replace h := h.1 c9
    refine ev_if_ne 11 dX7_tell_5 (by decide) (fun c9 => ?_) (fun c9 => ?_)
    · refine ev_iload_n 2 dX7_tell_11 rfl ?_
      by_cases c0 : x2 = 0
      · replace h := h.1 c0
        refine ev_tableIn (off := (40)) 0 52 dX7_tell_12 c0 (by decide) (by decide) rfl (by decide) ?_
        refine ev_aload_n 0 dX7_tell_52 rfl ?_
        refine ev_getR (r := 16) G7 lay_5 (k := 3) rfl (Nat.le_of_ble_eq_true rfl) dX7_tell_53 w_155 ?_
        refine ev_iload_n 1 dX7_tell_56 rfl ?_
        have hb57 := h.1
        replace h := h.2
        refine ev_iald lay_16 (Nat.le_of_ble_eq_true rfl) hb57 dX7_tell_57 ?_
        exact ev_iret rfl dX7_tell_58 h
      by_cases c1 : x2 = 1
      · replace h := h.2.1 c1
        refine ev_tableIn (off := (47)) 1 59 dX7_tell_12 c1 (by decide) (by decide) rfl (by decide) ?_
        refine ev_aload_n 0 dX7_tell_59 rfl ?_
        refine ev_getR (r := 16) G7 lay_5 (k := 3) rfl (Nat.le_of_ble_eq_true rfl) dX7_tell_60 w_155 ?_
        refine ev_iload_n 1 dX7_tell_63 rfl ?_
        have hb64 := h.1
        replace h := h.2
        refine ev_iald lay_16 (Nat.le_of_ble_eq_true rfl) hb64 dX7_tell_64 ?_
        refine ev_aload_n 0 dX7_tell_65 rfl ?_
        refine ev_iload_n 1 dX7_tell_66 rfl ?_
        refine ev_iconst (-1) dX7_tell_67 (by decide) ?_
        refine ev_callV (M' := mX7_cellsLike) [.int x1, .int (-1)] vX7_cellsLike G7 lay_5 dX7_tell_68 w_580 rfl rfl (Nat.le_of_ble_eq_true rfl) h ?_
        rintro r9 σ1 ⟨v1, rfl, h⟩
        refine ev_isub dX7_tell_71 ?_
        refine ev_aload_n 0 dX7_tell_72 rfl ?_
        refine ev_iload_n 1 dX7_tell_73 rfl ?_
        refine ev_bipush (-2) dX7_tell_74 (by decide) ?_
        refine ev_callV (M' := mX7_cellsLike) [.int x1, .int (-2)] vX7_cellsLike G7 lay_5 dX7_tell_76 w_580 rfl rfl (Nat.le_of_ble_eq_true rfl) h ?_
        rintro r9 σ2 ⟨v2, rfl, h⟩
        refine ev_isub dX7_tell_79 ?_
        exact ev_iret rfl dX7_tell_80 h
      by_cases c2 : x2 = 2
      · replace h := h.2.2.1 c2
        refine ev_tableIn (off := (69)) 2 81 dX7_tell_12 c2 (by decide) (by decide) rfl (by decide) ?_
        refine ev_aload_n 0 dX7_tell_81 rfl ?_
        refine ev_iload_n 1 dX7_tell_82 rfl ?_
        refine ev_iconst (-1) dX7_tell_83 (by decide) ?_
        refine ev_callV (M' := mX7_cellsLike) [.int x1, .int (-1)] vX7_cellsLike G7 lay_5 dX7_tell_84 w_580 rfl rfl (Nat.le_of_ble_eq_true rfl) h ?_
        rintro r9 σ3 ⟨v3, rfl, h⟩
        exact ev_iret rfl dX7_tell_87 h
      by_cases c3 : x2 = 3
      · replace h := h.2.2.2.1 c3
        refine ev_tableIn (off := (76)) 3 88 dX7_tell_12 c3 (by decide) (by decide) rfl (by decide) ?_
        refine ev_aload_n 0 dX7_tell_88 rfl ?_
        refine ev_iload_n 1 dX7_tell_89 rfl ?_
        refine ev_iconst 0 dX7_tell_90 (by decide) ?_
        refine ev_callV (M' := mX7_wordsIn) [.int x1, .int 0] vX7_wordsIn G7 lay_5 dX7_tell_91 w_588 rfl rfl (Nat.le_of_ble_eq_true rfl) h ?_
        rintro r9 σ4 ⟨v4, rfl, h⟩
        exact ev_iret rfl dX7_tell_94 h
      by_cases c4 : x2 = 4
      · replace h := h.2.2.2.2.1 c4
        refine ev_tableIn (off := (83)) 4 95 dX7_tell_12 c4 (by decide) (by decide) rfl (by decide) ?_
        refine ev_aload_n 0 dX7_tell_95 rfl ?_
        refine ev_iload_n 1 dX7_tell_96 rfl ?_
        refine ev_iconst 1 dX7_tell_97 (by decide) ?_
        refine ev_callV (M' := mX7_wordsIn) [.int x1, .int 1] vX7_wordsIn G7 lay_5 dX7_tell_98 w_588 rfl rfl (Nat.le_of_ble_eq_true rfl) h ?_
        rintro r9 σ5 ⟨v5, rfl, h⟩
        exact ev_iret rfl dX7_tell_101 h
      by_cases c5 : x2 = 5
      · replace h := h.2.2.2.2.2.1 c5
        refine ev_tableIn (off := (90)) 5 102 dX7_tell_12 c5 (by decide) (by decide) rfl (by decide) ?_
        refine ev_aload_n 0 dX7_tell_102 rfl ?_
        refine ev_iload_n 1 dX7_tell_103 rfl ?_
        refine ev_callV (M' := mX7_longestWhole) [.int x1] vX7_longestWhole G7 lay_5 dX7_tell_104 w_600 rfl rfl (Nat.le_of_ble_eq_true rfl) h ?_
        rintro r9 σ6 ⟨v6, rfl, h⟩
        exact ev_iret rfl dX7_tell_107 h
      replace h := h.2.2.2.2.2.2 c0 c1 c2 c3 c4 c5
      refine ev_tableOut 108 dX7_tell_12 ?_ (by decide) ?_
      · have hn : ∀ k : Int32, ¬ x2 = k → ¬ (x2).toInt = k.toInt := fun k q e => q (Int32.toInt_inj.mp e)
        have e0 := hn _ c0
        have e1 := hn _ c1
        have e2 := hn _ c2
        have e3 := hn _ c3
        have e4 := hn _ c4
        have e5 := hn _ c5
        rw [show (0 : Int32).toInt = 0 from by decide] at e0; rw [show (1 : Int32).toInt = 1 from by decide] at e1; rw [show (2 : Int32).toInt = 2 from by decide] at e2; rw [show (3 : Int32).toInt = 3 from by decide] at e3; rw [show (4 : Int32).toInt = 4 from by decide] at e4; rw [show (5 : Int32).toInt = 5 from by decide] at e5
        omega
      · refine ev_iload_n 2 dX7_tell_108 rfl ?_
        refine ev_bipush 10 dX7_tell_109 (by decide) ?_
        refine ev_icmp_lt 139 dX7_tell_111 (by decide) (fun c9 => ?_) (fun c9 => ?_)
        · replace h := h.1 c9
          refine ev_bipush (-10) dX7_tell_139 (by decide) ?_
          exact ev_iret rfl dX7_tell_141 h
        · replace h := h.2 c9
          refine ev_iload_n 2 dX7_tell_114 rfl ?_
          refine ev_bipush 10 dX7_tell_115 (by decide) ?_
          refine ev_aload_n 0 dX7_tell_117 rfl ?_
          refine ev_getR (r := 16) G7 lay_5 (k := 3) rfl (Nat.le_of_ble_eq_true rfl) dX7_tell_118 w_155 ?_
          refine ev_iload_n 1 dX7_tell_121 rfl ?_
          have hb122 := h.1
          replace h := h.2
          refine ev_iald lay_16 (Nat.le_of_ble_eq_true rfl) hb122 dX7_tell_122 ?_
          refine ev_iadd dX7_tell_123 ?_
          refine ev_icmp_ge 139 dX7_tell_124 (by decide) (fun c9 => ?_) (fun c9 => ?_)
          · replace h := h.1 c9
            refine ev_bipush (-10) dX7_tell_139 (by decide) ?_
            exact ev_iret rfl dX7_tell_141 h
          · replace h := h.2 c9
            refine ev_aload_n 0 dX7_tell_127 rfl ?_
            refine ev_iload_n 1 dX7_tell_128 rfl ?_
            refine ev_iload_n 2 dX7_tell_129 rfl ?_
            refine ev_bipush 10 dX7_tell_130 (by decide) ?_
            refine ev_isub dX7_tell_132 ?_
            refine ev_callV (M' := mX7_signAt) [.int x1, .int (x2 - 10)] vX7_signAt G7 lay_5 dX7_tell_133 w_551 rfl rfl (Nat.le_of_ble_eq_true rfl) h ?_
            rintro r9 σ7 ⟨v7, rfl, h⟩
            refine ev_goto 141 dX7_tell_136 (by decide) ?_
            exact ev_iret rfl dX7_tell_141 h
    · exact absurd c9 (by decide)
  · replace h := h.2 c9
    refine ev_if_ne 11 dX7_tell_5 (by decide) (fun c9 => ?_) (fun c9 => ?_)
    · exact absurd c9 (by decide)
    · refine ev_bipush (-10) dX7_tell_8 (by decide) ?_
      exact ev_iret rfl dX7_tell_10 h
abbrev KX7_cellsLike_5 (N : Nat) (σ : Sg) (Q : Option Value → Sg → Prop) (x1 : Int32) (x2 : Int32) (x3 : Int32) (x4 : Int32) : Prop := Ev (N + 2) mX7_cellsLike 5 [(0, .ref 5), (1, .int x1), (2, .int x2), (3, .int x3), (4, .int x4)] [] σ Q
theorem EX7_cellsLike {N : Nat} {σ : Sg} {Q : Option Value → Sg → Prop} {x1 : Int32} {x2 : Int32} (h : KX7_cellsLike_5 N σ Q x1 x2 0 0) : EvM (N + 2) mX7_cellsLike [.ref 5, .int x1, .int x2] σ Q := by
  refine ev_entry rfl (Nat.le_of_ble_eq_true rfl) (lv := [(0, .ref 5), (1, .int x1), (2, .int x2)]) rfl ?_
  refine ev_iconst 0 dX7_cellsLike_0 (by decide) ?_
  refine ev_istore_n (lv' := [(3, .int 0), (0, .ref 5), (1, .int x1), (2, .int x2)]) dX7_cellsLike_1 (Nat.le_of_ble_eq_true rfl) rfl ?_
  refine ev_iconst 0 dX7_cellsLike_2 (by decide) ?_
  refine ev_istore (lv' := [(4, .int 0), (3, .int 0), (0, .ref 5), (1, .int x1), (2, .int x2)]) dX7_cellsLike_3 (Nat.le_of_ble_eq_true rfl) rfl ?_
  refine ev_sub [2, 3, 4, 1, 0] rfl ?_
  exact h
theorem BX7_cellsLike_5 {N : Nat} {σ : Sg} {Q : Option Value → Sg → Prop} {x1 : Int32} {x2 : Int32} {x3 : Int32} {x4 : Int32} (h : EvM (N + 1) mX7_lengthOf [.ref 5, .int x1] σ (fun r9 σ1 => ∃ v1, r9 = some (.int v1) ∧ ((v1 ≤ x4 → Q (some (.int x3)) σ1) ∧ (¬ v1 ≤ x4 → EvM (N + 1) mX7_signAt [.ref 5, .int x1, .int x4] σ1 (fun r9 σ2 => ∃ v2, r9 = some (.int v2) ∧ ((v2 = x2 → KX7_cellsLike_5 N σ2 Q x1 x2 (x3 + 1) (x4 + 1)) ∧ (¬ v2 = x2 → KX7_cellsLike_5 N σ2 Q x1 x2 x3 (x4 + 1)))))))) : KX7_cellsLike_5 N σ Q x1 x2 x3 x4 := by
  refine ev_iload 4 dX7_cellsLike_5 rfl ?_
  refine ev_aload_n 0 dX7_cellsLike_7 rfl ?_
  refine ev_iload_n 1 dX7_cellsLike_8 rfl ?_
  refine ev_callV (M' := mX7_lengthOf) [.int x1] vX7_lengthOf G7 lay_5 dX7_cellsLike_9 w_584 rfl rfl (Nat.le_of_ble_eq_true rfl) h ?_
  rintro r9 σ1 ⟨v1, rfl, h⟩
  refine ev_icmp_ge 35 dX7_cellsLike_12 (by decide) (fun c9 => ?_) (fun c9 => ?_)
  · replace h := h.1 c9
    refine ev_iload_n 3 dX7_cellsLike_35 rfl ?_
    exact ev_iret rfl dX7_cellsLike_36 h
  · replace h := h.2 c9
    refine ev_aload_n 0 dX7_cellsLike_15 rfl ?_
    refine ev_iload_n 1 dX7_cellsLike_16 rfl ?_
    refine ev_iload 4 dX7_cellsLike_17 rfl ?_
    refine ev_callV (M' := mX7_signAt) [.int x1, .int x4] vX7_signAt G7 lay_5 dX7_cellsLike_19 w_551 rfl rfl (Nat.le_of_ble_eq_true rfl) h ?_
    rintro r9 σ2 ⟨v2, rfl, h⟩
    refine ev_iload_n 2 dX7_cellsLike_22 rfl ?_
    refine ev_icmp_ne 29 dX7_cellsLike_23 (by decide) (fun c9 => ?_) (fun c9 => ?_)
    · replace h := h.2 c9
      refine ev_iinc (lv' := [(4, .int (x4 + 1)), (0, .ref 5), (1, .int x1), (2, .int x2), (3, .int x3)]) (x4 + 1) 4 dX7_cellsLike_29 rfl rfl (Nat.le_of_ble_eq_true rfl) rfl ?_
      refine ev_goto 5 dX7_cellsLike_32 (by decide) ?_
      refine ev_sub [1, 2, 3, 4, 0] rfl ?_
      exact h
    · replace h := h.1 c9
      refine ev_iinc (lv' := [(3, .int (x3 + 1)), (0, .ref 5), (1, .int x1), (2, .int x2), (4, .int x4)]) (x3 + 1) 3 dX7_cellsLike_26 rfl rfl (Nat.le_of_ble_eq_true rfl) rfl ?_
      refine ev_iinc (lv' := [(4, .int (x4 + 1)), (3, .int (x3 + 1)), (0, .ref 5), (1, .int x1), (2, .int x2)]) (x4 + 1) 4 dX7_cellsLike_29 rfl rfl (Nat.le_of_ble_eq_true rfl) rfl ?_
      refine ev_goto 5 dX7_cellsLike_32 (by decide) ?_
      refine ev_sub [2, 3, 4, 1, 0] rfl ?_
      exact h
abbrev KX7_wordsIn_5 (N : Nat) (σ : Sg) (Q : Option Value → Sg → Prop) (x1 : Int32) (x2 : Int32) (x3 : Int32) (x4 : Int32) : Prop := Ev (N + 2) mX7_wordsIn 5 [(0, .ref 5), (1, .int x1), (2, .int x2), (3, .int x3), (4, .int x4)] [] σ Q
theorem EX7_wordsIn {N : Nat} {σ : Sg} {Q : Option Value → Sg → Prop} {x1 : Int32} {x2 : Int32} (h : KX7_wordsIn_5 N σ Q x1 x2 0 0) : EvM (N + 2) mX7_wordsIn [.ref 5, .int x1, .int x2] σ Q := by
  refine ev_entry rfl (Nat.le_of_ble_eq_true rfl) (lv := [(0, .ref 5), (1, .int x1), (2, .int x2)]) rfl ?_
  refine ev_iconst 0 dX7_wordsIn_0 (by decide) ?_
  refine ev_istore_n (lv' := [(3, .int 0), (0, .ref 5), (1, .int x1), (2, .int x2)]) dX7_wordsIn_1 (Nat.le_of_ble_eq_true rfl) rfl ?_
  refine ev_iconst 0 dX7_wordsIn_2 (by decide) ?_
  refine ev_istore (lv' := [(4, .int 0), (3, .int 0), (0, .ref 5), (1, .int x1), (2, .int x2)]) dX7_wordsIn_3 (Nat.le_of_ble_eq_true rfl) rfl ?_
  refine ev_sub [2, 3, 4, 1, 0] rfl ?_
  exact h
theorem BX7_wordsIn_5 {N : Nat} {σ : Sg} {Q : Option Value → Sg → Prop} {x1 : Int32} {x2 : Int32} {x3 : Int32} {x4 : Int32} (h : ((σ.1 5 9) ≤ x4 → Q (some (.int x3)) σ) ∧ (¬ (σ.1 5 9) ≤ x4 → vp_in x4 96 ∧ (((σ.1 17 (x4).toNatClampNeg) = x1 → (x2 = 0 → KX7_wordsIn_5 N σ Q x1 x2 (x3 + 1) (x4 + 1)) ∧ (¬ x2 = 0 → EvM (N + 1) mX7_isWhole [.ref 5, .int x4] σ (fun r9 σ1 => ∃ v1, r9 = some (.int v1) ∧ ((v1 = 0 → KX7_wordsIn_5 N σ1 Q x1 x2 x3 (x4 + 1)) ∧ (¬ v1 = 0 → KX7_wordsIn_5 N σ1 Q x1 x2 (x3 + 1) (x4 + 1)))))) ∧ (¬ (σ.1 17 (x4).toNatClampNeg) = x1 → KX7_wordsIn_5 N σ Q x1 x2 x3 (x4 + 1))))) : KX7_wordsIn_5 N σ Q x1 x2 x3 x4 := by
  refine ev_iload 4 dX7_wordsIn_5 rfl ?_
  refine ev_aload_n 0 dX7_wordsIn_7 rfl ?_
  refine ev_get G7 lay_5 (k := 9) rfl (Nat.le_of_ble_eq_true rfl) dX7_wordsIn_8 w_161 ?_
  refine ev_icmp_ge 47 dX7_wordsIn_11 (by decide) (fun c9 => ?_) (fun c9 => ?_)
  · replace h := h.1 c9
    refine ev_iload_n 3 dX7_wordsIn_47 rfl ?_
    exact ev_iret rfl dX7_wordsIn_48 h
  · replace h := h.2 c9
    refine ev_aload_n 0 dX7_wordsIn_14 rfl ?_
    refine ev_getR (r := 17) G7 lay_5 (k := 5) rfl (Nat.le_of_ble_eq_true rfl) dX7_wordsIn_15 w_157 ?_
    refine ev_iload 4 dX7_wordsIn_18 rfl ?_
    have hb20 := h.1
    replace h := h.2
    refine ev_iald lay_17 (Nat.le_of_ble_eq_true rfl) hb20 dX7_wordsIn_20 ?_
    refine ev_iload_n 1 dX7_wordsIn_21 rfl ?_
    refine ev_icmp_ne 41 dX7_wordsIn_22 (by decide) (fun c9 => ?_) (fun c9 => ?_)
    · replace h := h.2 c9
      refine ev_iinc (lv' := [(4, .int (x4 + 1)), (0, .ref 5), (1, .int x1), (2, .int x2), (3, .int x3)]) (x4 + 1) 4 dX7_wordsIn_41 rfl rfl (Nat.le_of_ble_eq_true rfl) rfl ?_
      refine ev_goto 5 dX7_wordsIn_44 (by decide) ?_
      refine ev_sub [1, 2, 3, 4, 0] rfl ?_
      exact h
    · replace h := h.1 c9
      refine ev_iload_n 2 dX7_wordsIn_25 rfl ?_
      refine ev_if_eq 38 dX7_wordsIn_26 (by decide) (fun c9 => ?_) (fun c9 => ?_)
      · replace h := h.1 c9
        refine ev_iinc (lv' := [(3, .int (x3 + 1)), (0, .ref 5), (1, .int x1), (2, .int x2), (4, .int x4)]) (x3 + 1) 3 dX7_wordsIn_38 rfl rfl (Nat.le_of_ble_eq_true rfl) rfl ?_
        refine ev_iinc (lv' := [(4, .int (x4 + 1)), (3, .int (x3 + 1)), (0, .ref 5), (1, .int x1), (2, .int x2)]) (x4 + 1) 4 dX7_wordsIn_41 rfl rfl (Nat.le_of_ble_eq_true rfl) rfl ?_
        refine ev_goto 5 dX7_wordsIn_44 (by decide) ?_
        refine ev_sub [2, 3, 4, 1, 0] rfl ?_
        exact h
      · replace h := h.2 c9
        refine ev_aload_n 0 dX7_wordsIn_29 rfl ?_
        refine ev_iload 4 dX7_wordsIn_30 rfl ?_
        refine ev_callV (M' := mX7_isWhole) [.int x4] vX7_isWhole G7 lay_5 dX7_wordsIn_32 w_592 rfl rfl (Nat.le_of_ble_eq_true rfl) h ?_
        rintro r9 σ1 ⟨v1, rfl, h⟩
        refine ev_if_eq 41 dX7_wordsIn_35 (by decide) (fun c9 => ?_) (fun c9 => ?_)
        · replace h := h.1 c9
          refine ev_iinc (lv' := [(4, .int (x4 + 1)), (0, .ref 5), (1, .int x1), (2, .int x2), (3, .int x3)]) (x4 + 1) 4 dX7_wordsIn_41 rfl rfl (Nat.le_of_ble_eq_true rfl) rfl ?_
          refine ev_goto 5 dX7_wordsIn_44 (by decide) ?_
          refine ev_sub [1, 2, 3, 4, 0] rfl ?_
          exact h
        · replace h := h.2 c9
          refine ev_iinc (lv' := [(3, .int (x3 + 1)), (0, .ref 5), (1, .int x1), (2, .int x2), (4, .int x4)]) (x3 + 1) 3 dX7_wordsIn_38 rfl rfl (Nat.le_of_ble_eq_true rfl) rfl ?_
          refine ev_iinc (lv' := [(4, .int (x4 + 1)), (3, .int (x3 + 1)), (0, .ref 5), (1, .int x1), (2, .int x2)]) (x4 + 1) 4 dX7_wordsIn_41 rfl rfl (Nat.le_of_ble_eq_true rfl) rfl ?_
          refine ev_goto 5 dX7_wordsIn_44 (by decide) ?_
          refine ev_sub [2, 3, 4, 1, 0] rfl ?_
          exact h
abbrev KX7_longestWhole_4 (N : Nat) (σ : Sg) (Q : Option Value → Sg → Prop) (x1 : Int32) (x2 : Int32) (x3 : Int32) : Prop := Ev (N + 2) mX7_longestWhole 4 [(0, .ref 5), (1, .int x1), (2, .int x2), (3, .int x3)] [] σ Q
theorem EX7_longestWhole {N : Nat} {σ : Sg} {Q : Option Value → Sg → Prop} {x1 : Int32} (h : KX7_longestWhole_4 N σ Q x1 0 0) : EvM (N + 2) mX7_longestWhole [.ref 5, .int x1] σ Q := by
  refine ev_entry rfl (Nat.le_of_ble_eq_true rfl) (lv := [(0, .ref 5), (1, .int x1)]) rfl ?_
  refine ev_iconst 0 dX7_longestWhole_0 (by decide) ?_
  refine ev_istore_n (lv' := [(2, .int 0), (0, .ref 5), (1, .int x1)]) dX7_longestWhole_1 (Nat.le_of_ble_eq_true rfl) rfl ?_
  refine ev_iconst 0 dX7_longestWhole_2 (by decide) ?_
  refine ev_istore_n (lv' := [(3, .int 0), (2, .int 0), (0, .ref 5), (1, .int x1)]) dX7_longestWhole_3 (Nat.le_of_ble_eq_true rfl) rfl ?_
  refine ev_sub [2, 3, 1, 0] rfl ?_
  exact h
theorem BX7_longestWhole_4 {N : Nat} {σ : Sg} {Q : Option Value → Sg → Prop} {x1 : Int32} {x2 : Int32} {x3 : Int32} (h : ((σ.1 5 9) ≤ x3 → Q (some (.int x2)) σ) ∧ (¬ (σ.1 5 9) ≤ x3 → vp_in x3 96 ∧ (((σ.1 17 (x3).toNatClampNeg) = x1 → EvM (N + 1) mX7_isWhole [.ref 5, .int x3] σ (fun r9 σ1 => ∃ v1, r9 = some (.int v1) ∧ ((v1 = 0 → KX7_longestWhole_4 N σ1 Q x1 x2 (x3 + 1)) ∧ (¬ v1 = 0 → vp_in x3 96 ∧ (KX7_longestWhole_4 N σ1 Q x1 (if x2 < (σ1.1 19 (x3).toNatClampNeg) then (σ1.1 19 (x3).toNatClampNeg) else x2) (x3 + 1)))))) ∧ (¬ (σ.1 17 (x3).toNatClampNeg) = x1 → KX7_longestWhole_4 N σ Q x1 x2 (x3 + 1))))) : KX7_longestWhole_4 N σ Q x1 x2 x3 := by
  refine ev_iload_n 3 dX7_longestWhole_4 rfl ?_
  refine ev_aload_n 0 dX7_longestWhole_5 rfl ?_
  refine ev_get G7 lay_5 (k := 9) rfl (Nat.le_of_ble_eq_true rfl) dX7_longestWhole_6 w_161 ?_
  refine ev_icmp_ge 47 dX7_longestWhole_9 (by decide) (fun c9 => ?_) (fun c9 => ?_)
  · replace h := h.1 c9
    refine ev_iload_n 2 dX7_longestWhole_47 rfl ?_
    exact ev_iret rfl dX7_longestWhole_48 h
  · replace h := h.2 c9
    refine ev_aload_n 0 dX7_longestWhole_12 rfl ?_
    refine ev_getR (r := 17) G7 lay_5 (k := 5) rfl (Nat.le_of_ble_eq_true rfl) dX7_longestWhole_13 w_157 ?_
    refine ev_iload_n 3 dX7_longestWhole_16 rfl ?_
    have hb17 := h.1
    replace h := h.2
    refine ev_iald lay_17 (Nat.le_of_ble_eq_true rfl) hb17 dX7_longestWhole_17 ?_
    refine ev_iload_n 1 dX7_longestWhole_18 rfl ?_
    refine ev_icmp_ne 41 dX7_longestWhole_19 (by decide) (fun c9 => ?_) (fun c9 => ?_)
    · replace h := h.2 c9
      refine ev_iinc (lv' := [(3, .int (x3 + 1)), (0, .ref 5), (1, .int x1), (2, .int x2)]) (x3 + 1) 3 dX7_longestWhole_41 rfl rfl (Nat.le_of_ble_eq_true rfl) rfl ?_
      refine ev_goto 4 dX7_longestWhole_44 (by decide) ?_
      refine ev_sub [1, 2, 3, 0] rfl ?_
      exact h
    · replace h := h.1 c9
      refine ev_aload_n 0 dX7_longestWhole_22 rfl ?_
      refine ev_iload_n 3 dX7_longestWhole_23 rfl ?_
      refine ev_callV (M' := mX7_isWhole) [.int x3] vX7_isWhole G7 lay_5 dX7_longestWhole_24 w_592 rfl rfl (Nat.le_of_ble_eq_true rfl) h ?_
      rintro r9 σ1 ⟨v1, rfl, h⟩
      refine ev_if_eq 41 dX7_longestWhole_27 (by decide) (fun c9 => ?_) (fun c9 => ?_)
      · replace h := h.1 c9
        refine ev_iinc (lv' := [(3, .int (x3 + 1)), (0, .ref 5), (1, .int x1), (2, .int x2)]) (x3 + 1) 3 dX7_longestWhole_41 rfl rfl (Nat.le_of_ble_eq_true rfl) rfl ?_
        refine ev_goto 4 dX7_longestWhole_44 (by decide) ?_
        refine ev_sub [1, 2, 3, 0] rfl ?_
        exact h
      · replace h := h.2 c9
        refine ev_iload_n 2 dX7_longestWhole_30 rfl ?_
        refine ev_aload_n 0 dX7_longestWhole_31 rfl ?_
        refine ev_getR (r := 19) G7 lay_5 (k := 7) rfl (Nat.le_of_ble_eq_true rfl) dX7_longestWhole_32 w_159 ?_
        refine ev_iload_n 3 dX7_longestWhole_35 rfl ?_
        have hb36 := h.1
        replace h := h.2
        refine ev_iald lay_19 (Nat.le_of_ble_eq_true rfl) hb36 dX7_longestWhole_36 ?_
        refine ev_mmax dX7_longestWhole_37 w_604 ?_ (Nat.le_of_ble_eq_true rfl)
        refine ev_istore_n (lv' := [(2, .int (if x2 < (σ1.1 19 (x3).toNatClampNeg) then (σ1.1 19 (x3).toNatClampNeg) else x2)), (0, .ref 5), (1, .int x1), (3, .int x3)]) dX7_longestWhole_40 (Nat.le_of_ble_eq_true rfl) rfl ?_
        refine ev_iinc (lv' := [(3, .int (x3 + 1)), (2, .int (if x2 < (σ1.1 19 (x3).toNatClampNeg) then (σ1.1 19 (x3).toNatClampNeg) else x2)), (0, .ref 5), (1, .int x1)]) (x3 + 1) 3 dX7_longestWhole_41 rfl rfl (Nat.le_of_ble_eq_true rfl) rfl ?_
        refine ev_goto 4 dX7_longestWhole_44 (by decide) ?_
        refine ev_sub [2, 3, 1, 0] rfl ?_
        exact h
abbrev KX7_timesOf_4 (N : Nat) (σ : Sg) (Q : Option Value → Sg → Prop) (x1 : Int32) (x2 : Int32) (x3 : Int32) : Prop := Ev (N + 3) mX7_timesOf 4 [(0, .ref 5), (1, .int x1), (2, .int x2), (3, .int x3)] [] σ Q
theorem EX7_timesOf {N : Nat} {σ : Sg} {Q : Option Value → Sg → Prop} {x1 : Int32} (h : KX7_timesOf_4 N σ Q x1 0 0) : EvM (N + 3) mX7_timesOf [.ref 5, .int x1] σ Q := by
  refine ev_entry rfl (Nat.le_of_ble_eq_true rfl) (lv := [(0, .ref 5), (1, .int x1)]) rfl ?_
  refine ev_iconst 0 dX7_timesOf_0 (by decide) ?_
  refine ev_istore_n (lv' := [(2, .int 0), (0, .ref 5), (1, .int x1)]) dX7_timesOf_1 (Nat.le_of_ble_eq_true rfl) rfl ?_
  refine ev_iconst 0 dX7_timesOf_2 (by decide) ?_
  refine ev_istore_n (lv' := [(3, .int 0), (2, .int 0), (0, .ref 5), (1, .int x1)]) dX7_timesOf_3 (Nat.le_of_ble_eq_true rfl) rfl ?_
  refine ev_sub [2, 3, 1, 0] rfl ?_
  exact h
theorem BX7_timesOf_4 {N : Nat} {σ : Sg} {Q : Option Value → Sg → Prop} {x1 : Int32} {x2 : Int32} {x3 : Int32} (h : ((σ.1 5 4) ≤ x3 → Q (some (.int x2)) σ) ∧ (¬ (σ.1 5 4) ≤ x3 → EvM (N + 2) mX7_cellsLike [.ref 5, .int x3, .int x1] σ (fun r9 σ1 => ∃ v1, r9 = some (.int v1) ∧ (KX7_timesOf_4 N σ1 Q x1 (x2 + v1) (x3 + 1))))) : KX7_timesOf_4 N σ Q x1 x2 x3 := by
  refine ev_iload_n 3 dX7_timesOf_4 rfl ?_
  refine ev_aload_n 0 dX7_timesOf_5 rfl ?_
  refine ev_get G7 lay_5 (k := 4) rfl (Nat.le_of_ble_eq_true rfl) dX7_timesOf_6 w_156 ?_
  refine ev_icmp_ge 27 dX7_timesOf_9 (by decide) (fun c9 => ?_) (fun c9 => ?_)
  · replace h := h.1 c9
    refine ev_iload_n 2 dX7_timesOf_27 rfl ?_
    exact ev_iret rfl dX7_timesOf_28 h
  · replace h := h.2 c9
    refine ev_iload_n 2 dX7_timesOf_12 rfl ?_
    refine ev_aload_n 0 dX7_timesOf_13 rfl ?_
    refine ev_iload_n 3 dX7_timesOf_14 rfl ?_
    refine ev_iload_n 1 dX7_timesOf_15 rfl ?_
    refine ev_callV (M' := mX7_cellsLike) [.int x3, .int x1] vX7_cellsLike G7 lay_5 dX7_timesOf_16 w_580 rfl rfl (Nat.le_of_ble_eq_true rfl) h ?_
    rintro r9 σ1 ⟨v1, rfl, h⟩
    refine ev_iadd dX7_timesOf_19 ?_
    refine ev_istore_n (lv' := [(2, .int (x2 + v1)), (0, .ref 5), (1, .int x1), (3, .int x3)]) dX7_timesOf_20 (Nat.le_of_ble_eq_true rfl) rfl ?_
    refine ev_iinc (lv' := [(3, .int (x3 + 1)), (2, .int (x2 + v1)), (0, .ref 5), (1, .int x1)]) (x3 + 1) 3 dX7_timesOf_21 rfl rfl (Nat.le_of_ble_eq_true rfl) rfl ?_
    refine ev_goto 4 dX7_timesOf_24 (by decide) ?_
    refine ev_sub [2, 3, 1, 0] rfl ?_
    exact h
abbrev KX7_timesOfAll_4 (N : Nat) (σ : Sg) (Q : Option Value → Sg → Prop) (x1 : Int32) (x2 : Int32) : Prop := Ev (N + 3) mX7_timesOfAll 4 [(0, .ref 5), (1, .int x1), (2, .int x2)] [] σ Q
theorem EX7_timesOfAll {N : Nat} {σ : Sg} {Q : Option Value → Sg → Prop} (h : KX7_timesOfAll_4 N σ Q 0 0) : EvM (N + 3) mX7_timesOfAll [.ref 5] σ Q := by
  refine ev_entry rfl (Nat.le_of_ble_eq_true rfl) (lv := [(0, .ref 5)]) rfl ?_
  refine ev_iconst 0 dX7_timesOfAll_0 (by decide) ?_
  refine ev_istore_n (lv' := [(1, .int 0), (0, .ref 5)]) dX7_timesOfAll_1 (Nat.le_of_ble_eq_true rfl) rfl ?_
  refine ev_iconst 0 dX7_timesOfAll_2 (by decide) ?_
  refine ev_istore_n (lv' := [(2, .int 0), (1, .int 0), (0, .ref 5)]) dX7_timesOfAll_3 (Nat.le_of_ble_eq_true rfl) rfl ?_
  refine ev_sub [2, 1, 0] rfl ?_
  exact h
theorem BX7_timesOfAll_4 {N : Nat} {σ : Sg} {Q : Option Value → Sg → Prop} {x1 : Int32} {x2 : Int32} (h : ((σ.1 5 4) ≤ x2 → Q (some (.int x1)) σ) ∧ (¬ (σ.1 5 4) ≤ x2 → vp_in x2 8 ∧ (EvM (N + 2) mX7_cellsLike [.ref 5, .int x2, .int (-1)] σ (fun r9 σ1 => ∃ v1, r9 = some (.int v1) ∧ (EvM (N + 2) mX7_cellsLike [.ref 5, .int x2, .int (-2)] σ1 (fun r9 σ2 => ∃ v2, r9 = some (.int v2) ∧ (KX7_timesOfAll_4 N σ2 Q (x1 + (((σ.1 16 (x2).toNatClampNeg) - v1) - v2)) (x2 + 1)))))))) : KX7_timesOfAll_4 N σ Q x1 x2 := by
  refine ev_iload_n 2 dX7_timesOfAll_4 rfl ?_
  refine ev_aload_n 0 dX7_timesOfAll_5 rfl ?_
  refine ev_get G7 lay_5 (k := 4) rfl (Nat.le_of_ble_eq_true rfl) dX7_timesOfAll_6 w_156 ?_
  refine ev_icmp_ge 42 dX7_timesOfAll_9 (by decide) (fun c9 => ?_) (fun c9 => ?_)
  · replace h := h.1 c9
    refine ev_iload_n 1 dX7_timesOfAll_42 rfl ?_
    exact ev_iret rfl dX7_timesOfAll_43 h
  · replace h := h.2 c9
    refine ev_iload_n 1 dX7_timesOfAll_12 rfl ?_
    refine ev_aload_n 0 dX7_timesOfAll_13 rfl ?_
    refine ev_getR (r := 16) G7 lay_5 (k := 3) rfl (Nat.le_of_ble_eq_true rfl) dX7_timesOfAll_14 w_155 ?_
    refine ev_iload_n 2 dX7_timesOfAll_17 rfl ?_
    have hb18 := h.1
    replace h := h.2
    refine ev_iald lay_16 (Nat.le_of_ble_eq_true rfl) hb18 dX7_timesOfAll_18 ?_
    refine ev_aload_n 0 dX7_timesOfAll_19 rfl ?_
    refine ev_iload_n 2 dX7_timesOfAll_20 rfl ?_
    refine ev_iconst (-1) dX7_timesOfAll_21 (by decide) ?_
    refine ev_callV (M' := mX7_cellsLike) [.int x2, .int (-1)] vX7_cellsLike G7 lay_5 dX7_timesOfAll_22 w_580 rfl rfl (Nat.le_of_ble_eq_true rfl) h ?_
    rintro r9 σ1 ⟨v1, rfl, h⟩
    refine ev_isub dX7_timesOfAll_25 ?_
    refine ev_aload_n 0 dX7_timesOfAll_26 rfl ?_
    refine ev_iload_n 2 dX7_timesOfAll_27 rfl ?_
    refine ev_bipush (-2) dX7_timesOfAll_28 (by decide) ?_
    refine ev_callV (M' := mX7_cellsLike) [.int x2, .int (-2)] vX7_cellsLike G7 lay_5 dX7_timesOfAll_30 w_580 rfl rfl (Nat.le_of_ble_eq_true rfl) h ?_
    rintro r9 σ2 ⟨v2, rfl, h⟩
    refine ev_isub dX7_timesOfAll_33 ?_
    refine ev_iadd dX7_timesOfAll_34 ?_
    refine ev_istore_n (lv' := [(1, .int (x1 + (((σ.1 16 (x2).toNatClampNeg) - v1) - v2))), (0, .ref 5), (2, .int x2)]) dX7_timesOfAll_35 (Nat.le_of_ble_eq_true rfl) rfl ?_
    refine ev_iinc (lv' := [(2, .int (x2 + 1)), (1, .int (x1 + (((σ.1 16 (x2).toNatClampNeg) - v1) - v2))), (0, .ref 5)]) (x2 + 1) 2 dX7_timesOfAll_36 rfl rfl (Nat.le_of_ble_eq_true rfl) rfl ?_
    refine ev_goto 4 dX7_timesOfAll_39 (by decide) ?_
    refine ev_sub [2, 1, 0] rfl ?_
    exact h
abbrev KX7_timesBeside_5 (N : Nat) (σ : Sg) (Q : Option Value → Sg → Prop) (x1 : Int32) (x2 : Int32) (x3 : Int32) (x4 : Int32) : Prop := Ev (N + 2) mX7_timesBeside 5 [(0, .ref 5), (1, .int x1), (2, .int x2), (3, .int x3), (4, .int x4)] [] σ Q
abbrev KX7_timesBeside_17 (N : Nat) (σ : Sg) (Q : Option Value → Sg → Prop) (x1 : Int32) (x2 : Int32) (x3 : Int32) (x4 : Int32) (x5 : Int32) : Prop := Ev (N + 2) mX7_timesBeside 17 [(0, .ref 5), (1, .int x1), (2, .int x2), (3, .int x3), (4, .int x4), (5, .int x5)] [] σ Q
theorem EX7_timesBeside {N : Nat} {σ : Sg} {Q : Option Value → Sg → Prop} {x1 : Int32} {x2 : Int32} (h : KX7_timesBeside_5 N σ Q x1 x2 0 0) : EvM (N + 2) mX7_timesBeside [.ref 5, .int x1, .int x2] σ Q := by
  refine ev_entry rfl (Nat.le_of_ble_eq_true rfl) (lv := [(0, .ref 5), (1, .int x1), (2, .int x2)]) rfl ?_
  refine ev_iconst 0 dX7_timesBeside_0 (by decide) ?_
  refine ev_istore_n (lv' := [(3, .int 0), (0, .ref 5), (1, .int x1), (2, .int x2)]) dX7_timesBeside_1 (Nat.le_of_ble_eq_true rfl) rfl ?_
  refine ev_iconst 0 dX7_timesBeside_2 (by decide) ?_
  refine ev_istore (lv' := [(4, .int 0), (3, .int 0), (0, .ref 5), (1, .int x1), (2, .int x2)]) dX7_timesBeside_3 (Nat.le_of_ble_eq_true rfl) rfl ?_
  refine ev_sub [2, 3, 4, 1, 0] rfl ?_
  exact h
theorem BX7_timesBeside_5 {N : Nat} {σ : Sg} {Q : Option Value → Sg → Prop} {x1 : Int32} {x2 : Int32} {x3 : Int32} {x4 : Int32} (h : ((σ.1 5 4) ≤ x4 → Q (some (.int x3)) σ) ∧ (¬ (σ.1 5 4) ≤ x4 → KX7_timesBeside_17 N σ Q x1 x2 x3 x4 1)) : KX7_timesBeside_5 N σ Q x1 x2 x3 x4 := by
  refine ev_iload 4 dX7_timesBeside_5 rfl ?_
  refine ev_aload_n 0 dX7_timesBeside_7 rfl ?_
  refine ev_get G7 lay_5 (k := 4) rfl (Nat.le_of_ble_eq_true rfl) dX7_timesBeside_8 w_156 ?_
  refine ev_icmp_ge 70 dX7_timesBeside_11 (by decide) (fun c9 => ?_) (fun c9 => ?_)
  · replace h := h.1 c9
    refine ev_iload_n 3 dX7_timesBeside_70 rfl ?_
    exact ev_iret rfl dX7_timesBeside_71 h
  · replace h := h.2 c9
    refine ev_iconst 1 dX7_timesBeside_14 (by decide) ?_
    refine ev_istore (lv' := [(5, .int 1), (0, .ref 5), (1, .int x1), (2, .int x2), (3, .int x3), (4, .int x4)]) dX7_timesBeside_15 (Nat.le_of_ble_eq_true rfl) rfl ?_
    refine ev_sub [1, 2, 3, 4, 5, 0] rfl ?_
    exact h
theorem BX7_timesBeside_17 {N : Nat} {σ : Sg} {Q : Option Value → Sg → Prop} {x1 : Int32} {x2 : Int32} {x3 : Int32} {x4 : Int32} {x5 : Int32} (h : vp_in x4 8 ∧ (((σ.1 16 (x4).toNatClampNeg) ≤ x5 → KX7_timesBeside_5 N σ Q x1 x2 x3 (x4 + 1)) ∧ (¬ (σ.1 16 (x4).toNatClampNeg) ≤ x5 → EvM (N + 1) mX7_signAt [.ref 5, .int x4, .int (x5 - 1)] σ (fun r9 σ1 => ∃ v1, r9 = some (.int v1) ∧ ((v1 = x1 → EvM (N + 1) mX7_signAt [.ref 5, .int x4, .int x5] σ1 (fun r9 σ2 => ∃ v2, r9 = some (.int v2) ∧ ((v2 = x2 → KX7_timesBeside_17 N σ2 Q x1 x2 (x3 + 1) x4 (x5 + 1)) ∧ (¬ v2 = x2 → KX7_timesBeside_17 N σ2 Q x1 x2 x3 x4 (x5 + 1))))) ∧ (¬ v1 = x1 → KX7_timesBeside_17 N σ1 Q x1 x2 x3 x4 (x5 + 1))))))) : KX7_timesBeside_17 N σ Q x1 x2 x3 x4 x5 := by
  refine ev_iload 5 dX7_timesBeside_17 rfl ?_
  refine ev_aload_n 0 dX7_timesBeside_19 rfl ?_
  refine ev_getR (r := 16) G7 lay_5 (k := 3) rfl (Nat.le_of_ble_eq_true rfl) dX7_timesBeside_20 w_155 ?_
  refine ev_iload 4 dX7_timesBeside_23 rfl ?_
  have hb25 := h.1
  replace h := h.2
  refine ev_iald lay_16 (Nat.le_of_ble_eq_true rfl) hb25 dX7_timesBeside_25 ?_
  refine ev_icmp_ge 64 dX7_timesBeside_26 (by decide) (fun c9 => ?_) (fun c9 => ?_)
  · replace h := h.1 c9
    refine ev_iinc (lv' := [(4, .int (x4 + 1)), (0, .ref 5), (1, .int x1), (2, .int x2), (3, .int x3), (5, .int x5)]) (x4 + 1) 4 dX7_timesBeside_64 rfl rfl (Nat.le_of_ble_eq_true rfl) rfl ?_
    refine ev_goto 5 dX7_timesBeside_67 (by decide) ?_
    refine ev_sub [1, 2, 3, 4, 0] rfl ?_
    exact h
  · replace h := h.2 c9
    refine ev_aload_n 0 dX7_timesBeside_29 rfl ?_
    refine ev_iload 4 dX7_timesBeside_30 rfl ?_
    refine ev_iload 5 dX7_timesBeside_32 rfl ?_
    refine ev_iconst 1 dX7_timesBeside_34 (by decide) ?_
    refine ev_isub dX7_timesBeside_35 ?_
    refine ev_callV (M' := mX7_signAt) [.int x4, .int (x5 - 1)] vX7_signAt G7 lay_5 dX7_timesBeside_36 w_551 rfl rfl (Nat.le_of_ble_eq_true rfl) h ?_
    rintro r9 σ1 ⟨v1, rfl, h⟩
    refine ev_iload_n 1 dX7_timesBeside_39 rfl ?_
    refine ev_icmp_ne 58 dX7_timesBeside_40 (by decide) (fun c9 => ?_) (fun c9 => ?_)
    · replace h := h.2 c9
      refine ev_iinc (lv' := [(5, .int (x5 + 1)), (0, .ref 5), (1, .int x1), (2, .int x2), (3, .int x3), (4, .int x4)]) (x5 + 1) 5 dX7_timesBeside_58 rfl rfl (Nat.le_of_ble_eq_true rfl) rfl ?_
      refine ev_goto 17 dX7_timesBeside_61 (by decide) ?_
      refine ev_sub [1, 2, 3, 4, 5, 0] rfl ?_
      exact h
    · replace h := h.1 c9
      refine ev_aload_n 0 dX7_timesBeside_43 rfl ?_
      refine ev_iload 4 dX7_timesBeside_44 rfl ?_
      refine ev_iload 5 dX7_timesBeside_46 rfl ?_
      refine ev_callV (M' := mX7_signAt) [.int x4, .int x5] vX7_signAt G7 lay_5 dX7_timesBeside_48 w_551 rfl rfl (Nat.le_of_ble_eq_true rfl) h ?_
      rintro r9 σ2 ⟨v2, rfl, h⟩
      refine ev_iload_n 2 dX7_timesBeside_51 rfl ?_
      refine ev_icmp_ne 58 dX7_timesBeside_52 (by decide) (fun c9 => ?_) (fun c9 => ?_)
      · replace h := h.2 c9
        refine ev_iinc (lv' := [(5, .int (x5 + 1)), (0, .ref 5), (1, .int x1), (2, .int x2), (3, .int x3), (4, .int x4)]) (x5 + 1) 5 dX7_timesBeside_58 rfl rfl (Nat.le_of_ble_eq_true rfl) rfl ?_
        refine ev_goto 17 dX7_timesBeside_61 (by decide) ?_
        refine ev_sub [1, 2, 3, 4, 5, 0] rfl ?_
        exact h
      · replace h := h.1 c9
        refine ev_iinc (lv' := [(3, .int (x3 + 1)), (0, .ref 5), (1, .int x1), (2, .int x2), (4, .int x4), (5, .int x5)]) (x3 + 1) 3 dX7_timesBeside_55 rfl rfl (Nat.le_of_ble_eq_true rfl) rfl ?_
        refine ev_iinc (lv' := [(5, .int (x5 + 1)), (3, .int (x3 + 1)), (0, .ref 5), (1, .int x1), (2, .int x2), (4, .int x4)]) (x5 + 1) 5 dX7_timesBeside_58 rfl rfl (Nat.le_of_ble_eq_true rfl) rfl ?_
        refine ev_goto 17 dX7_timesBeside_61 (by decide) ?_
        refine ev_sub [2, 3, 4, 1, 5, 0] rfl ?_
        exact h
abbrev KX7_placesBeside_4 (N : Nat) (σ : Sg) (Q : Option Value → Sg → Prop) (x1 : Int32) (x2 : Int32) : Prop := Ev (N + 2) mX7_placesBeside 4 [(0, .ref 5), (1, .int x1), (2, .int x2)] [] σ Q
abbrev KX7_placesBeside_14 (N : Nat) (σ : Sg) (Q : Option Value → Sg → Prop) (x1 : Int32) (x2 : Int32) (x3 : Int32) : Prop := Ev (N + 2) mX7_placesBeside 14 [(0, .ref 5), (1, .int x1), (2, .int x2), (3, .int x3)] [] σ Q
theorem EX7_placesBeside {N : Nat} {σ : Sg} {Q : Option Value → Sg → Prop} (h : KX7_placesBeside_4 N σ Q 0 0) : EvM (N + 2) mX7_placesBeside [.ref 5] σ Q := by
  refine ev_entry rfl (Nat.le_of_ble_eq_true rfl) (lv := [(0, .ref 5)]) rfl ?_
  refine ev_iconst 0 dX7_placesBeside_0 (by decide) ?_
  refine ev_istore_n (lv' := [(1, .int 0), (0, .ref 5)]) dX7_placesBeside_1 (Nat.le_of_ble_eq_true rfl) rfl ?_
  refine ev_iconst 0 dX7_placesBeside_2 (by decide) ?_
  refine ev_istore_n (lv' := [(2, .int 0), (1, .int 0), (0, .ref 5)]) dX7_placesBeside_3 (Nat.le_of_ble_eq_true rfl) rfl ?_
  refine ev_sub [2, 1, 0] rfl ?_
  exact h
theorem BX7_placesBeside_4 {N : Nat} {σ : Sg} {Q : Option Value → Sg → Prop} {x1 : Int32} {x2 : Int32} (h : ((σ.1 5 4) ≤ x2 → Q (some (.int x1)) σ) ∧ (¬ (σ.1 5 4) ≤ x2 → KX7_placesBeside_14 N σ Q x1 x2 1)) : KX7_placesBeside_4 N σ Q x1 x2 := by
  refine ev_iload_n 2 dX7_placesBeside_4 rfl ?_
  refine ev_aload_n 0 dX7_placesBeside_5 rfl ?_
  refine ev_get G7 lay_5 (k := 4) rfl (Nat.le_of_ble_eq_true rfl) dX7_placesBeside_6 w_156 ?_
  refine ev_icmp_ge 59 dX7_placesBeside_9 (by decide) (fun c9 => ?_) (fun c9 => ?_)
  · replace h := h.1 c9
    refine ev_iload_n 1 dX7_placesBeside_59 rfl ?_
    exact ev_iret rfl dX7_placesBeside_60 h
  · replace h := h.2 c9
    refine ev_iconst 1 dX7_placesBeside_12 (by decide) ?_
    refine ev_istore_n (lv' := [(3, .int 1), (0, .ref 5), (1, .int x1), (2, .int x2)]) dX7_placesBeside_13 (Nat.le_of_ble_eq_true rfl) rfl ?_
    refine ev_sub [1, 2, 3, 0] rfl ?_
    exact h
theorem BX7_placesBeside_14 {N : Nat} {σ : Sg} {Q : Option Value → Sg → Prop} {x1 : Int32} {x2 : Int32} {x3 : Int32} (h : vp_in x2 8 ∧ (((σ.1 16 (x2).toNatClampNeg) ≤ x3 → KX7_placesBeside_4 N σ Q x1 (x2 + 1)) ∧ (¬ (σ.1 16 (x2).toNatClampNeg) ≤ x3 → EvM (N + 1) mX7_signAt [.ref 5, .int x2, .int (x3 - 1)] σ (fun r9 σ1 => ∃ v1, r9 = some (.int v1) ∧ ((v1 < 0 → KX7_placesBeside_14 N σ1 Q x1 x2 (x3 + 1)) ∧ (¬ v1 < 0 → EvM (N + 1) mX7_signAt [.ref 5, .int x2, .int x3] σ1 (fun r9 σ2 => ∃ v2, r9 = some (.int v2) ∧ ((v2 < 0 → KX7_placesBeside_14 N σ2 Q x1 x2 (x3 + 1)) ∧ (¬ v2 < 0 → KX7_placesBeside_14 N σ2 Q (x1 + 1) x2 (x3 + 1)))))))))) : KX7_placesBeside_14 N σ Q x1 x2 x3 := by
  refine ev_iload_n 3 dX7_placesBeside_14 rfl ?_
  refine ev_aload_n 0 dX7_placesBeside_15 rfl ?_
  refine ev_getR (r := 16) G7 lay_5 (k := 3) rfl (Nat.le_of_ble_eq_true rfl) dX7_placesBeside_16 w_155 ?_
  refine ev_iload_n 2 dX7_placesBeside_19 rfl ?_
  have hb20 := h.1
  replace h := h.2
  refine ev_iald lay_16 (Nat.le_of_ble_eq_true rfl) hb20 dX7_placesBeside_20 ?_
  refine ev_icmp_ge 53 dX7_placesBeside_21 (by decide) (fun c9 => ?_) (fun c9 => ?_)
  · replace h := h.1 c9
    refine ev_iinc (lv' := [(2, .int (x2 + 1)), (0, .ref 5), (1, .int x1), (3, .int x3)]) (x2 + 1) 2 dX7_placesBeside_53 rfl rfl (Nat.le_of_ble_eq_true rfl) rfl ?_
    refine ev_goto 4 dX7_placesBeside_56 (by decide) ?_
    refine ev_sub [1, 2, 0] rfl ?_
    exact h
  · replace h := h.2 c9
    refine ev_aload_n 0 dX7_placesBeside_24 rfl ?_
    refine ev_iload_n 2 dX7_placesBeside_25 rfl ?_
    refine ev_iload_n 3 dX7_placesBeside_26 rfl ?_
    refine ev_iconst 1 dX7_placesBeside_27 (by decide) ?_
    refine ev_isub dX7_placesBeside_28 ?_
    refine ev_callV (M' := mX7_signAt) [.int x2, .int (x3 - 1)] vX7_signAt G7 lay_5 dX7_placesBeside_29 w_551 rfl rfl (Nat.le_of_ble_eq_true rfl) h ?_
    rintro r9 σ1 ⟨v1, rfl, h⟩
    refine ev_if_lt 47 dX7_placesBeside_32 (by decide) (fun c9 => ?_) (fun c9 => ?_)
    · replace h := h.1 c9
      refine ev_iinc (lv' := [(3, .int (x3 + 1)), (0, .ref 5), (1, .int x1), (2, .int x2)]) (x3 + 1) 3 dX7_placesBeside_47 rfl rfl (Nat.le_of_ble_eq_true rfl) rfl ?_
      refine ev_goto 14 dX7_placesBeside_50 (by decide) ?_
      refine ev_sub [1, 2, 3, 0] rfl ?_
      exact h
    · replace h := h.2 c9
      refine ev_aload_n 0 dX7_placesBeside_35 rfl ?_
      refine ev_iload_n 2 dX7_placesBeside_36 rfl ?_
      refine ev_iload_n 3 dX7_placesBeside_37 rfl ?_
      refine ev_callV (M' := mX7_signAt) [.int x2, .int x3] vX7_signAt G7 lay_5 dX7_placesBeside_38 w_551 rfl rfl (Nat.le_of_ble_eq_true rfl) h ?_
      rintro r9 σ2 ⟨v2, rfl, h⟩
      refine ev_if_lt 47 dX7_placesBeside_41 (by decide) (fun c9 => ?_) (fun c9 => ?_)
      · replace h := h.1 c9
        refine ev_iinc (lv' := [(3, .int (x3 + 1)), (0, .ref 5), (1, .int x1), (2, .int x2)]) (x3 + 1) 3 dX7_placesBeside_47 rfl rfl (Nat.le_of_ble_eq_true rfl) rfl ?_
        refine ev_goto 14 dX7_placesBeside_50 (by decide) ?_
        refine ev_sub [1, 2, 3, 0] rfl ?_
        exact h
      · replace h := h.2 c9
        refine ev_iinc (lv' := [(1, .int (x1 + 1)), (0, .ref 5), (2, .int x2), (3, .int x3)]) (x1 + 1) 1 dX7_placesBeside_44 rfl rfl (Nat.le_of_ble_eq_true rfl) rfl ?_
        refine ev_iinc (lv' := [(3, .int (x3 + 1)), (1, .int (x1 + 1)), (0, .ref 5), (2, .int x2)]) (x3 + 1) 3 dX7_placesBeside_47 rfl rfl (Nat.le_of_ble_eq_true rfl) rfl ?_
        refine ev_goto 14 dX7_placesBeside_50 (by decide) ?_
        refine ev_sub [2, 1, 3, 0] rfl ?_
        exact h
theorem EX7_chanceAbove {N : Nat} {σ : Sg} {Q : Option Value → Sg → Prop} {x1 : Int32} {x2 : Int32} (h : EvM (N + 3) mX7_timesOfAll [.ref 5] σ (fun r9 σ1 => ∃ v1, r9 = some (.int v1) ∧ ((2 ≤ v1 → (x1 = x2 → EvM (N + 3) mX7_timesOf [.ref 5, .int x2] σ1 (fun r9 σ5 => ∃ v5, r9 = some (.int v5) ∧ (EvM (N + 3) mX7_placesBeside [.ref 5] σ5 (fun r9 σ6 => ∃ v6, r9 = some (.int v6) ∧ (EvM (N + 3) mX7_timesOf [.ref 5, .int x1] σ6 (fun r9 σ7 => ∃ v7, r9 = some (.int v7) ∧ (Q (some (.long ((((v6).toInt64) * ((v7).toInt64)) * ((v5 - 1).toInt64)))) σ7))))))) ∧ (¬ x1 = x2 → EvM (N + 3) mX7_timesOf [.ref 5, .int x2] σ1 (fun r9 σ2 => ∃ v2, r9 = some (.int v2) ∧ (EvM (N + 3) mX7_placesBeside [.ref 5] σ2 (fun r9 σ3 => ∃ v3, r9 = some (.int v3) ∧ (EvM (N + 3) mX7_timesOf [.ref 5, .int x1] σ3 (fun r9 σ4 => ∃ v4, r9 = some (.int v4) ∧ (Q (some (.long ((((v3).toInt64) * ((v4).toInt64)) * ((v2).toInt64)))) σ4)))))))) ∧ (¬ 2 ≤ v1 → Q (some (.long 0)) σ1)))) : EvM (N + 4) mX7_chanceAbove [.ref 5, .int x1, .int x2] σ Q := by
  refine ev_entry rfl (Nat.le_of_ble_eq_true rfl) (lv := [(0, .ref 5), (1, .int x1), (2, .int x2)]) rfl ?_
  refine ev_aload_n 0 dX7_chanceAbove_0 rfl ?_
  refine ev_callV (M' := mX7_timesOfAll) [] vX7_timesOfAll G7 lay_5 dX7_chanceAbove_1 w_635 rfl rfl (Nat.le_of_ble_eq_true rfl) h ?_
  rintro r9 σ1 ⟨v1, rfl, h⟩
  refine ev_iconst 2 dX7_chanceAbove_4 (by decide) ?_
  refine ev_icmp_ge 10 dX7_chanceAbove_5 (by decide) (fun c9 => ?_) (fun c9 => ?_)
  · replace h := h.1 c9
    refine ev_iload_n 1 dX7_chanceAbove_10 rfl ?_
    refine ev_iload_n 2 dX7_chanceAbove_11 rfl ?_
    refine ev_icmp_ne 26 dX7_chanceAbove_12 (by decide) (fun c9 => ?_) (fun c9 => ?_)
    · replace h := h.2 c9
      refine ev_aload_n 0 dX7_chanceAbove_26 rfl ?_
      refine ev_iload_n 2 dX7_chanceAbove_27 rfl ?_
      refine ev_callV (M' := mX7_timesOf) [.int x2] vX7_timesOf G7 lay_5 dX7_chanceAbove_28 w_639 rfl rfl (Nat.le_of_ble_eq_true rfl) h ?_
      rintro r9 σ2 ⟨v2, rfl, h⟩
      refine ev_i2l dX7_chanceAbove_31 ?_
      refine ev_lstore_n (lv' := [(3, .long ((v2).toInt64)), (0, .ref 5), (1, .int x1), (2, .int x2)]) dX7_chanceAbove_32 (Nat.le_of_ble_eq_true rfl) rfl ?_
      refine ev_aload_n 1 dX7_chanceAbove_33 rfl ?_
      refine ev_callV (M' := mX7_placesBeside) [] vX7_placesBeside G7 lay_5 dX7_chanceAbove_34 w_640 rfl rfl (Nat.le_of_ble_eq_true rfl) h ?_
      rintro r9 σ3 ⟨v3, rfl, h⟩
      refine ev_i2l dX7_chanceAbove_37 ?_
      refine ev_aload_n 1 dX7_chanceAbove_38 rfl ?_
      refine ev_iload_n 2 dX7_chanceAbove_39 rfl ?_
      refine ev_callV (M' := mX7_timesOf) [.int x1] vX7_timesOf G7 lay_5 dX7_chanceAbove_40 w_639 rfl rfl (Nat.le_of_ble_eq_true rfl) h ?_
      rintro r9 σ4 ⟨v4, rfl, h⟩
      refine ev_i2l dX7_chanceAbove_43 ?_
      refine ev_lmul dX7_chanceAbove_44 ?_
      refine ev_lload_n 0 dX7_chanceAbove_45 rfl ?_
      refine ev_lmul dX7_chanceAbove_46 ?_
      exact ev_lret rfl dX7_chanceAbove_47 h
    · replace h := h.1 c9
      refine ev_aload_n 0 dX7_chanceAbove_15 rfl ?_
      refine ev_iload_n 2 dX7_chanceAbove_16 rfl ?_
      refine ev_callV (M' := mX7_timesOf) [.int x2] vX7_timesOf G7 lay_5 dX7_chanceAbove_17 w_639 rfl rfl (Nat.le_of_ble_eq_true rfl) h ?_
      rintro r9 σ5 ⟨v5, rfl, h⟩
      refine ev_iconst 1 dX7_chanceAbove_20 (by decide) ?_
      refine ev_isub dX7_chanceAbove_21 ?_
      refine ev_i2l dX7_chanceAbove_22 ?_
      refine ev_goto 32 dX7_chanceAbove_23 (by decide) ?_
      refine ev_lstore_n (lv' := [(3, .long ((v5 - 1).toInt64)), (0, .ref 5), (1, .int x1), (2, .int x2)]) dX7_chanceAbove_32 (Nat.le_of_ble_eq_true rfl) rfl ?_
      refine ev_aload_n 1 dX7_chanceAbove_33 rfl ?_
      refine ev_callV (M' := mX7_placesBeside) [] vX7_placesBeside G7 lay_5 dX7_chanceAbove_34 w_640 rfl rfl (Nat.le_of_ble_eq_true rfl) h ?_
      rintro r9 σ6 ⟨v6, rfl, h⟩
      refine ev_i2l dX7_chanceAbove_37 ?_
      refine ev_aload_n 1 dX7_chanceAbove_38 rfl ?_
      refine ev_iload_n 2 dX7_chanceAbove_39 rfl ?_
      refine ev_callV (M' := mX7_timesOf) [.int x1] vX7_timesOf G7 lay_5 dX7_chanceAbove_40 w_639 rfl rfl (Nat.le_of_ble_eq_true rfl) h ?_
      rintro r9 σ7 ⟨v7, rfl, h⟩
      refine ev_i2l dX7_chanceAbove_43 ?_
      refine ev_lmul dX7_chanceAbove_44 ?_
      refine ev_lload_n 0 dX7_chanceAbove_45 rfl ?_
      refine ev_lmul dX7_chanceAbove_46 ?_
      exact ev_lret rfl dX7_chanceAbove_47 h
  · replace h := h.2 c9
    refine ev_lconst 0 dX7_chanceAbove_8 (by decide) ?_
    exact ev_lret rfl dX7_chanceAbove_9 h
theorem EX7_chanceBelow {N : Nat} {σ : Sg} {Q : Option Value → Sg → Prop} (h : EvM (N + 3) mX7_timesOfAll [.ref 5] σ (fun r9 σ1 => ∃ v1, r9 = some (.int v1) ∧ ((0 ≤ (lg_cmp ((v1).toInt64) 2) → Q (some (.long (((v1).toInt64) * (((v1).toInt64) - 1)))) σ1) ∧ (¬ 0 ≤ (lg_cmp ((v1).toInt64) 2) → Q (some (.long 1)) σ1)))) : EvM (N + 4) mX7_chanceBelow [.ref 5] σ Q := by
  refine ev_entry rfl (Nat.le_of_ble_eq_true rfl) (lv := [(0, .ref 5)]) rfl ?_
  refine ev_aload_n 0 dX7_chanceBelow_0 rfl ?_
  refine ev_callV (M' := mX7_timesOfAll) [] vX7_timesOfAll G7 lay_5 dX7_chanceBelow_1 w_635 rfl rfl (Nat.le_of_ble_eq_true rfl) h ?_
  rintro r9 σ1 ⟨v1, rfl, h⟩
  refine ev_i2l dX7_chanceBelow_4 ?_
  refine ev_lstore_n (lv' := [(1, .long ((v1).toInt64)), (0, .ref 5)]) dX7_chanceBelow_5 (Nat.le_of_ble_eq_true rfl) rfl ?_
  refine ev_lload_n 0 dX7_chanceBelow_6 rfl ?_
  refine ev_ldc2 2 dX7_chanceBelow_7 w_648 ?_
  refine ev_lcmp dX7_chanceBelow_10 ?_
  refine ev_if_ge 18 dX7_chanceBelow_11 (by decide) (fun c9 => ?_) (fun c9 => ?_)
  · replace h := h.1 c9
    refine ev_lload_n 0 dX7_chanceBelow_18 rfl ?_
    refine ev_lload_n 0 dX7_chanceBelow_19 rfl ?_
    refine ev_lconst 1 dX7_chanceBelow_20 (by decide) ?_
    refine ev_lsub dX7_chanceBelow_21 ?_
    refine ev_lmul dX7_chanceBelow_22 ?_
    exact ev_lret rfl dX7_chanceBelow_23 h
  · replace h := h.2 c9
    refine ev_lconst 1 dX7_chanceBelow_14 (by decide) ?_
    refine ev_goto 23 dX7_chanceBelow_15 (by decide) ?_
    exact ev_lret rfl dX7_chanceBelow_23 h
abbrev KX7_greatestShared_3 (N : Nat) (σ : Sg) (Q : Option Value → Sg → Prop) (y0 : Int64) (y2 : Int64) (x4 : Int32) : Prop := Ev N mX7_greatestShared 3 [(0, .long y0), (2, .long y2), (4, .int x4)] [] σ Q
theorem EX7_greatestShared {N : Nat} {σ : Sg} {Q : Option Value → Sg → Prop} {y0 : Int64} {y2 : Int64} (h : KX7_greatestShared_3 N σ Q y0 y2 0) : EvM N mX7_greatestShared [.long y0, .long y2] σ Q := by
  refine ev_entry rfl (Nat.le_of_ble_eq_true rfl) (lv := [(0, .long y0), (2, .long y2)]) rfl ?_
  refine ev_iconst 0 dX7_greatestShared_0 (by decide) ?_
  refine ev_istore (lv' := [(4, .int 0), (0, .long y0), (2, .long y2)]) dX7_greatestShared_1 (Nat.le_of_ble_eq_true rfl) rfl ?_
  refine ev_sub [1, 2, 0] rfl ?_
  exact h
theorem BX7_greatestShared_3 {N : Nat} {σ : Sg} {Q : Option Value → Sg → Prop} {y0 : Int64} {y2 : Int64} {x4 : Int32} (h : (200 ≤ x4 → Q (some (.long y0)) σ) ∧ (¬ 200 ≤ x4 → ((lg_cmp y2 0) = 0 → Q (some (.long y0)) σ) ∧ (¬ (lg_cmp y2 0) = 0 → (¬ y2 = 0) ∧ (KX7_greatestShared_3 N σ Q y2 (y0 - y0 / y2 * y2) (x4 + 1))))) : KX7_greatestShared_3 N σ Q y0 y2 x4 := by
  refine ev_iload 2 dX7_greatestShared_3 rfl ?_
  refine ev_sipush 200 dX7_greatestShared_5 (by decide) ?_
  refine ev_icmp_ge 33 dX7_greatestShared_8 (by decide) (fun c9 => ?_) (fun c9 => ?_)
  · replace h := h.1 c9
    refine ev_lload_n 0 dX7_greatestShared_33 rfl ?_
    exact ev_lret rfl dX7_greatestShared_34 h
  · replace h := h.2 c9
    refine ev_lload_n 1 dX7_greatestShared_11 rfl ?_
    refine ev_lconst 0 dX7_greatestShared_12 (by decide) ?_
    refine ev_lcmp dX7_greatestShared_13 ?_
    refine ev_if_eq 33 dX7_greatestShared_14 (by decide) (fun c9 => ?_) (fun c9 => ?_)
    · replace h := h.1 c9
      refine ev_lload_n 0 dX7_greatestShared_33 rfl ?_
      exact ev_lret rfl dX7_greatestShared_34 h
    · replace h := h.2 c9
      refine ev_lload_n 0 dX7_greatestShared_17 rfl ?_
      refine ev_lload_n 1 dX7_greatestShared_18 rfl ?_
      have hz := h.1
      replace h := h.2
      refine ev_lrem dX7_greatestShared_19 hz ?_
      refine ev_lstore (lv' := [(5, .long (y0 - y0 / y2 * y2)), (0, .long y0), (2, .long y2), (4, .int x4)]) dX7_greatestShared_20 (Nat.le_of_ble_eq_true rfl) rfl ?_
      refine ev_lload_n 2 dX7_greatestShared_22 rfl ?_
      refine ev_lstore_n (lv' := [(0, .long y2), (5, .long (y0 - y0 / y2 * y2)), (2, .long y2), (4, .int x4)]) dX7_greatestShared_23 (Nat.le_of_ble_eq_true rfl) rfl ?_
      refine ev_lload 1 dX7_greatestShared_24 rfl ?_
      refine ev_lstore_n (lv' := [(2, .long (y0 - y0 / y2 * y2)), (0, .long y2), (5, .long (y0 - y0 / y2 * y2)), (4, .int x4)]) dX7_greatestShared_26 (Nat.le_of_ble_eq_true rfl) rfl ?_
      refine ev_iinc (lv' := [(4, .int (x4 + 1)), (2, .long (y0 - y0 / y2 * y2)), (0, .long y2), (5, .long (y0 - y0 / y2 * y2))]) (x4 + 1) 3 dX7_greatestShared_27 rfl rfl (Nat.le_of_ble_eq_true rfl) rfl ?_
      refine ev_goto 3 dX7_greatestShared_30 (by decide) ?_
      refine ev_sub [2, 1, 0] rfl ?_
      exact h
abbrev KX7_likeEdges_2 (N : Nat) (σ : Sg) (Q : Option Value → Sg → Prop) (x1 : Int32) (x2 : Int32) : Prop := Ev (N + 4) mX7_likeEdges 2 [(0, .ref 5), (1, .int x1), (2, .int x2)] [] σ Q
abbrev KX7_likeEdges_23 (N : Nat) (σ : Sg) (Q : Option Value → Sg → Prop) (x1 : Int32) (x2 : Int32) : Prop := Ev (N + 4) mX7_likeEdges 23 [(0, .ref 5), (1, .int x1), (2, .int x2)] [] σ Q
abbrev KX7_likeEdges_88 (N : Nat) (σ : Sg) (Q : Option Value → Sg → Prop) (x2 : Int32) (x3 : Int32) : Prop := Ev (N + 4) mX7_likeEdges 88 [(0, .ref 5), (2, .int x2), (3, .int x3)] [] σ Q
theorem EX7_likeEdges {N : Nat} {σ : Sg} {Q : Option Value → Sg → Prop} {x1 : Int32} (h : KX7_likeEdges_2 N σ Q x1 0) : EvM (N + 4) mX7_likeEdges [.ref 5, .int x1] σ Q := by
  refine ev_entry rfl (Nat.le_of_ble_eq_true rfl) (lv := [(0, .ref 5), (1, .int x1)]) rfl ?_
  refine ev_iconst 0 dX7_likeEdges_0 (by decide) ?_
  refine ev_istore_n (lv' := [(2, .int 0), (0, .ref 5), (1, .int x1)]) dX7_likeEdges_1 (Nat.le_of_ble_eq_true rfl) rfl ?_
  refine ev_sub [1, 2, 0] rfl ?_
  exact h
theorem BX7_likeEdges_2 {N : Nat} {σ : Sg} {Q : Option Value → Sg → Prop} {x1 : Int32} {x2 : Int32} (h : (24 ≤ x2 → KX7_likeEdges_23 N σ Q x1 0) ∧ (¬ 24 ≤ x2 → vp_in x2 24 ∧ (KX7_likeEdges_2 N (u1 σ 21 (x2).toNatClampNeg 0) Q x1 (x2 + 1)))) : KX7_likeEdges_2 N σ Q x1 x2 := by
  refine ev_iload_n 2 dX7_likeEdges_2 rfl ?_
  refine ev_bipush 24 dX7_likeEdges_3 (by decide) ?_
  refine ev_icmp_ge 21 dX7_likeEdges_5 (by decide) (fun c9 => ?_) (fun c9 => ?_)
  · replace h := h.1 c9
    refine ev_iconst 0 dX7_likeEdges_21 (by decide) ?_
    refine ev_istore_n (lv' := [(2, .int 0), (0, .ref 5), (1, .int x1)]) dX7_likeEdges_22 (Nat.le_of_ble_eq_true rfl) rfl ?_
    refine ev_sub [1, 2, 0] rfl ?_
    exact h
  · replace h := h.2 c9
    refine ev_aload_n 0 dX7_likeEdges_8 rfl ?_
    refine ev_getR (r := 21) G7 lay_5 (k := 10) rfl (Nat.le_of_ble_eq_true rfl) dX7_likeEdges_9 w_162 ?_
    refine ev_iload_n 2 dX7_likeEdges_12 rfl ?_
    refine ev_iconst 0 dX7_likeEdges_13 (by decide) ?_
    have hb14 := h.1
    replace h := h.2
    refine ev_iast lay_21 (Nat.le_of_ble_eq_true rfl) hb14 dX7_likeEdges_14 ?_
    refine ev_iinc (lv' := [(2, .int (x2 + 1)), (0, .ref 5), (1, .int x1)]) (x2 + 1) 2 dX7_likeEdges_15 rfl rfl (Nat.le_of_ble_eq_true rfl) rfl ?_
    refine ev_goto 2 dX7_likeEdges_18 (by decide) ?_
    refine ev_sub [1, 2, 0] rfl ?_
    exact h
theorem BX7_likeEdges_23 {N : Nat} {σ : Sg} {Q : Option Value → Sg → Prop} {x1 : Int32} {x2 : Int32} (h : ((σ.1 5 9) ≤ x2 → KX7_likeEdges_88 N σ Q 0 0) ∧ (¬ (σ.1 5 9) ≤ x2 → (x1 = 0 → EvM (N + 3) mX7_signOfWord [.ref 5, .int x2, .int 0] σ (fun r9 σ1 => ∃ v1, r9 = some (.int v1) ∧ (EvM (N + 3) mX7_isWhole [.ref 5, .int x2] σ1 (fun r9 σ2 => ∃ v2, r9 = some (.int v2) ∧ ((v2 = 0 → KX7_likeEdges_23 N σ2 Q x1 (x2 + 1)) ∧ (¬ v2 = 0 → (v1 < 0 → KX7_likeEdges_23 N σ2 Q x1 (x2 + 1)) ∧ (¬ v1 < 0 → (24 ≤ v1 → KX7_likeEdges_23 N σ2 Q x1 (x2 + 1)) ∧ (¬ 24 ≤ v1 → vp_in v1 24 ∧ (vp_in v1 24 ∧ (KX7_likeEdges_23 N (u1 σ2 21 (v1).toNatClampNeg ((σ2.1 21 (v1).toNatClampNeg) + 1)) Q x1 (x2 + 1))))))))))) ∧ (¬ x1 = 0 → EvM (N + 3) mX7_lastSignOfWord [.ref 5, .int x2] σ (fun r9 σ3 => ∃ v3, r9 = some (.int v3) ∧ (EvM (N + 3) mX7_isWhole [.ref 5, .int x2] σ3 (fun r9 σ4 => ∃ v4, r9 = some (.int v4) ∧ ((v4 = 0 → KX7_likeEdges_23 N σ4 Q x1 (x2 + 1)) ∧ (¬ v4 = 0 → (v3 < 0 → KX7_likeEdges_23 N σ4 Q x1 (x2 + 1)) ∧ (¬ v3 < 0 → (24 ≤ v3 → KX7_likeEdges_23 N σ4 Q x1 (x2 + 1)) ∧ (¬ 24 ≤ v3 → vp_in v3 24 ∧ (vp_in v3 24 ∧ (KX7_likeEdges_23 N (u1 σ4 21 (v3).toNatClampNeg ((σ4.1 21 (v3).toNatClampNeg) + 1)) Q x1 (x2 + 1))))))))))))) : KX7_likeEdges_23 N σ Q x1 x2 := by
  refine ev_iload_n 2 dX7_likeEdges_23 rfl ?_
  refine ev_aload_n 0 dX7_likeEdges_24 rfl ?_
  refine ev_get G7 lay_5 (k := 9) rfl (Nat.le_of_ble_eq_true rfl) dX7_likeEdges_25 w_161 ?_
  refine ev_icmp_ge 84 dX7_likeEdges_28 (by decide) (fun c9 => ?_) (fun c9 => ?_)
  · replace h := h.1 c9
    refine ev_iconst 0 dX7_likeEdges_84 (by decide) ?_
    refine ev_istore_n (lv' := [(2, .int 0), (0, .ref 5), (1, .int x1)]) dX7_likeEdges_85 (Nat.le_of_ble_eq_true rfl) rfl ?_
    refine ev_iconst 0 dX7_likeEdges_86 (by decide) ?_
    refine ev_istore_n (lv' := [(3, .int 0), (2, .int 0), (0, .ref 5), (1, .int x1)]) dX7_likeEdges_87 (Nat.le_of_ble_eq_true rfl) rfl ?_
    refine ev_sub [2, 1, 0] rfl ?_
    exact h
  · replace h := h.2 c9
    refine ev_iload_n 1 dX7_likeEdges_31 rfl ?_
    refine ev_if_eq 43 dX7_likeEdges_32 (by decide) (fun c9 => ?_) (fun c9 => ?_)
    · replace h := h.1 c9
      refine ev_aload_n 0 dX7_likeEdges_43 rfl ?_
      refine ev_iload_n 2 dX7_likeEdges_44 rfl ?_
      refine ev_iconst 0 dX7_likeEdges_45 (by decide) ?_
      refine ev_callV (M' := mX7_signOfWord) [.int x2, .int 0] vX7_signOfWord G7 lay_5 dX7_likeEdges_46 w_668 rfl rfl (Nat.le_of_ble_eq_true rfl) h ?_
      rintro r9 σ1 ⟨v1, rfl, h⟩
      refine ev_istore_n (lv' := [(3, .int v1), (0, .ref 5), (1, .int x1), (2, .int x2)]) dX7_likeEdges_49 (Nat.le_of_ble_eq_true rfl) rfl ?_
      refine ev_aload_n 1 dX7_likeEdges_50 rfl ?_
      refine ev_iload_n 3 dX7_likeEdges_51 rfl ?_
      refine ev_callV (M' := mX7_isWhole) [.int x2] vX7_isWhole G7 lay_5 dX7_likeEdges_52 w_592 rfl rfl (Nat.le_of_ble_eq_true rfl) h ?_
      rintro r9 σ2 ⟨v2, rfl, h⟩
      refine ev_if_eq 78 dX7_likeEdges_55 (by decide) (fun c9 => ?_) (fun c9 => ?_)
      · replace h := h.1 c9
        refine ev_iinc (lv' := [(2, .int (x2 + 1)), (3, .int v1), (0, .ref 5), (1, .int x1)]) (x2 + 1) 3 dX7_likeEdges_78 rfl rfl (Nat.le_of_ble_eq_true rfl) rfl ?_
        refine ev_goto 23 dX7_likeEdges_81 (by decide) ?_
        refine ev_sub [2, 3, 0] rfl ?_
        exact h
      · replace h := h.2 c9
        refine ev_iload_n 0 dX7_likeEdges_58 rfl ?_
        refine ev_if_lt 78 dX7_likeEdges_59 (by decide) (fun c9 => ?_) (fun c9 => ?_)
        · replace h := h.1 c9
          refine ev_iinc (lv' := [(2, .int (x2 + 1)), (3, .int v1), (0, .ref 5), (1, .int x1)]) (x2 + 1) 3 dX7_likeEdges_78 rfl rfl (Nat.le_of_ble_eq_true rfl) rfl ?_
          refine ev_goto 23 dX7_likeEdges_81 (by decide) ?_
          refine ev_sub [2, 3, 0] rfl ?_
          exact h
        · replace h := h.2 c9
          refine ev_iload_n 0 dX7_likeEdges_62 rfl ?_
          refine ev_bipush 24 dX7_likeEdges_63 (by decide) ?_
          refine ev_icmp_ge 78 dX7_likeEdges_65 (by decide) (fun c9 => ?_) (fun c9 => ?_)
          · replace h := h.1 c9
            refine ev_iinc (lv' := [(2, .int (x2 + 1)), (3, .int v1), (0, .ref 5), (1, .int x1)]) (x2 + 1) 3 dX7_likeEdges_78 rfl rfl (Nat.le_of_ble_eq_true rfl) rfl ?_
            refine ev_goto 23 dX7_likeEdges_81 (by decide) ?_
            refine ev_sub [2, 3, 0] rfl ?_
            exact h
          · replace h := h.2 c9
            refine ev_aload_n 1 dX7_likeEdges_68 rfl ?_
            refine ev_getR (r := 21) G7 lay_5 (k := 10) rfl (Nat.le_of_ble_eq_true rfl) dX7_likeEdges_69 w_162 ?_
            refine ev_iload_n 0 dX7_likeEdges_72 rfl ?_
            refine ev_dup2 dX7_likeEdges_73 rfl rfl ?_
            have hb74 := h.1
            replace h := h.2
            refine ev_iald lay_21 (Nat.le_of_ble_eq_true rfl) hb74 dX7_likeEdges_74 ?_
            refine ev_iconst 1 dX7_likeEdges_75 (by decide) ?_
            refine ev_iadd dX7_likeEdges_76 ?_
            have hb77 := h.1
            replace h := h.2
            refine ev_iast lay_21 (Nat.le_of_ble_eq_true rfl) hb77 dX7_likeEdges_77 ?_
            refine ev_iinc (lv' := [(2, .int (x2 + 1)), (3, .int v1), (0, .ref 5), (1, .int x1)]) (x2 + 1) 3 dX7_likeEdges_78 rfl rfl (Nat.le_of_ble_eq_true rfl) rfl ?_
            refine ev_goto 23 dX7_likeEdges_81 (by decide) ?_
            refine ev_sub [2, 3, 0] rfl ?_
            exact h
    · replace h := h.2 c9
      refine ev_aload_n 0 dX7_likeEdges_35 rfl ?_
      refine ev_iload_n 2 dX7_likeEdges_36 rfl ?_
      refine ev_callV (M' := mX7_lastSignOfWord) [.int x2] vX7_lastSignOfWord G7 lay_5 dX7_likeEdges_37 w_660 rfl rfl (Nat.le_of_ble_eq_true rfl) h ?_
      rintro r9 σ3 ⟨v3, rfl, h⟩
      refine ev_goto 49 dX7_likeEdges_40 (by decide) ?_
      refine ev_istore_n (lv' := [(3, .int v3), (0, .ref 5), (1, .int x1), (2, .int x2)]) dX7_likeEdges_49 (Nat.le_of_ble_eq_true rfl) rfl ?_
      refine ev_aload_n 1 dX7_likeEdges_50 rfl ?_
      refine ev_iload_n 3 dX7_likeEdges_51 rfl ?_
      refine ev_callV (M' := mX7_isWhole) [.int x2] vX7_isWhole G7 lay_5 dX7_likeEdges_52 w_592 rfl rfl (Nat.le_of_ble_eq_true rfl) h ?_
      rintro r9 σ4 ⟨v4, rfl, h⟩
      refine ev_if_eq 78 dX7_likeEdges_55 (by decide) (fun c9 => ?_) (fun c9 => ?_)
      · replace h := h.1 c9
        refine ev_iinc (lv' := [(2, .int (x2 + 1)), (3, .int v3), (0, .ref 5), (1, .int x1)]) (x2 + 1) 3 dX7_likeEdges_78 rfl rfl (Nat.le_of_ble_eq_true rfl) rfl ?_
        refine ev_goto 23 dX7_likeEdges_81 (by decide) ?_
        refine ev_sub [2, 3, 0] rfl ?_
        exact h
      · replace h := h.2 c9
        refine ev_iload_n 0 dX7_likeEdges_58 rfl ?_
        refine ev_if_lt 78 dX7_likeEdges_59 (by decide) (fun c9 => ?_) (fun c9 => ?_)
        · replace h := h.1 c9
          refine ev_iinc (lv' := [(2, .int (x2 + 1)), (3, .int v3), (0, .ref 5), (1, .int x1)]) (x2 + 1) 3 dX7_likeEdges_78 rfl rfl (Nat.le_of_ble_eq_true rfl) rfl ?_
          refine ev_goto 23 dX7_likeEdges_81 (by decide) ?_
          refine ev_sub [2, 3, 0] rfl ?_
          exact h
        · replace h := h.2 c9
          refine ev_iload_n 0 dX7_likeEdges_62 rfl ?_
          refine ev_bipush 24 dX7_likeEdges_63 (by decide) ?_
          refine ev_icmp_ge 78 dX7_likeEdges_65 (by decide) (fun c9 => ?_) (fun c9 => ?_)
          · replace h := h.1 c9
            refine ev_iinc (lv' := [(2, .int (x2 + 1)), (3, .int v3), (0, .ref 5), (1, .int x1)]) (x2 + 1) 3 dX7_likeEdges_78 rfl rfl (Nat.le_of_ble_eq_true rfl) rfl ?_
            refine ev_goto 23 dX7_likeEdges_81 (by decide) ?_
            refine ev_sub [2, 3, 0] rfl ?_
            exact h
          · replace h := h.2 c9
            refine ev_aload_n 1 dX7_likeEdges_68 rfl ?_
            refine ev_getR (r := 21) G7 lay_5 (k := 10) rfl (Nat.le_of_ble_eq_true rfl) dX7_likeEdges_69 w_162 ?_
            refine ev_iload_n 0 dX7_likeEdges_72 rfl ?_
            refine ev_dup2 dX7_likeEdges_73 rfl rfl ?_
            have hb74 := h.1
            replace h := h.2
            refine ev_iald lay_21 (Nat.le_of_ble_eq_true rfl) hb74 dX7_likeEdges_74 ?_
            refine ev_iconst 1 dX7_likeEdges_75 (by decide) ?_
            refine ev_iadd dX7_likeEdges_76 ?_
            have hb77 := h.1
            replace h := h.2
            refine ev_iast lay_21 (Nat.le_of_ble_eq_true rfl) hb77 dX7_likeEdges_77 ?_
            refine ev_iinc (lv' := [(2, .int (x2 + 1)), (3, .int v3), (0, .ref 5), (1, .int x1)]) (x2 + 1) 3 dX7_likeEdges_78 rfl rfl (Nat.le_of_ble_eq_true rfl) rfl ?_
            refine ev_goto 23 dX7_likeEdges_81 (by decide) ?_
            refine ev_sub [2, 3, 0] rfl ?_
            exact h
theorem BX7_likeEdges_88 {N : Nat} {σ : Sg} {Q : Option Value → Sg → Prop} {x2 : Int32} {x3 : Int32} (h : (24 ≤ x3 → Q (some (.int x2)) σ) ∧ (¬ 24 ≤ x3 → vp_in x3 24 ∧ (vp_in x3 24 ∧ (KX7_likeEdges_88 N σ Q (x2 + ((σ.1 21 (x3).toNatClampNeg) * (σ.1 21 (x3).toNatClampNeg))) (x3 + 1))))) : KX7_likeEdges_88 N σ Q x2 x3 := by
  refine ev_iload_n 2 dX7_likeEdges_88 rfl ?_
  refine ev_bipush 24 dX7_likeEdges_89 (by decide) ?_
  refine ev_icmp_ge 116 dX7_likeEdges_91 (by decide) (fun c9 => ?_) (fun c9 => ?_)
  · replace h := h.1 c9
    refine ev_iload_n 1 dX7_likeEdges_116 rfl ?_
    exact ev_iret rfl dX7_likeEdges_117 h
  · replace h := h.2 c9
    refine ev_iload_n 1 dX7_likeEdges_94 rfl ?_
    refine ev_aload_n 0 dX7_likeEdges_95 rfl ?_
    refine ev_getR (r := 21) G7 lay_5 (k := 10) rfl (Nat.le_of_ble_eq_true rfl) dX7_likeEdges_96 w_162 ?_
    refine ev_iload_n 2 dX7_likeEdges_99 rfl ?_
    have hb100 := h.1
    replace h := h.2
    refine ev_iald lay_21 (Nat.le_of_ble_eq_true rfl) hb100 dX7_likeEdges_100 ?_
    refine ev_aload_n 0 dX7_likeEdges_101 rfl ?_
    refine ev_getR (r := 21) G7 lay_5 (k := 10) rfl (Nat.le_of_ble_eq_true rfl) dX7_likeEdges_102 w_162 ?_
    refine ev_iload_n 2 dX7_likeEdges_105 rfl ?_
    have hb106 := h.1
    replace h := h.2
    refine ev_iald lay_21 (Nat.le_of_ble_eq_true rfl) hb106 dX7_likeEdges_106 ?_
    refine ev_imul dX7_likeEdges_107 ?_
    refine ev_iadd dX7_likeEdges_108 ?_
    refine ev_istore_n (lv' := [(2, .int (x2 + ((σ.1 21 (x3).toNatClampNeg) * (σ.1 21 (x3).toNatClampNeg)))), (0, .ref 5), (3, .int x3)]) dX7_likeEdges_109 (Nat.le_of_ble_eq_true rfl) rfl ?_
    refine ev_iinc (lv' := [(3, .int (x3 + 1)), (2, .int (x2 + ((σ.1 21 (x3).toNatClampNeg) * (σ.1 21 (x3).toNatClampNeg)))), (0, .ref 5)]) (x3 + 1) 2 dX7_likeEdges_110 rfl rfl (Nat.le_of_ble_eq_true rfl) rfl ?_
    refine ev_goto 88 dX7_likeEdges_113 (by decide) ?_
    refine ev_sub [2, 1, 0] rfl ?_
    exact h
