abbrev KX0_add_30 (N : Nat) (σ : Sg) (Q : Option Value → Sg → Prop) (x1 : Int32) (x2 : Int32) (x3 : Int32) : Prop := Ev (N + 2) mX0_add 30 [(0, .ref 102), (1, .int x1), (2, .int x2), (3, .int x3)] [] σ Q
theorem EX0_add {N : Nat} {σ : Sg} {Q : Option Value → Sg → Prop} {x1 : Int32} {x2 : Int32} (h : EvM (N + 1) mX0_areStanding [.int x1] σ (fun r9 σ1 => ∃ v1, r9 = some (.int v1) ∧ ((v1 = 0 → Q (some (.int (-1))) σ1) ∧ (¬ v1 = 0 → EvM (N + 1) mX0_areStanding [.int x2] σ1 (fun r9 σ2 => ∃ v2, r9 = some (.int v2) ∧ ((v2 = 0 → Q (some (.int (-1))) σ2) ∧ (¬ v2 = 0 → ((σ2.1 102 1) < 8 → KX0_add_30 N σ2 Q x1 x2 0) ∧ (¬ (σ2.1 102 1) < 8 → Q (some (.int (-3))) σ2)))))))) : EvM (N + 2) mX0_add [.ref 102, .int x1, .int x2] σ Q := by
  refine ev_entry rfl (Nat.le_of_ble_eq_true rfl) (lv := [(0, .ref 102), (1, .int x1), (2, .int x2)]) rfl ?_
  refine ev_iload_n 1 dX0_add_0 rfl ?_
  refine ev_callS (M' := mX0_areStanding) [.int x1] vX0_areStanding dX0_add_1 w_765 rfl rfl (Nat.le_of_ble_eq_true rfl) h ?_
  rintro r9 σ1 ⟨v1, rfl, h⟩
  refine ev_if_eq 14 dX0_add_4 (by decide) (fun c9 => ?_) (fun c9 => ?_)
  · replace h := h.1 c9
    refine ev_iconst (-1) dX0_add_14 (by decide) ?_
    exact ev_iret rfl dX0_add_15 h
  · replace h := h.2 c9
    refine ev_iload_n 2 dX0_add_7 rfl ?_
    refine ev_callS (M' := mX0_areStanding) [.int x2] vX0_areStanding dX0_add_8 w_765 rfl rfl (Nat.le_of_ble_eq_true rfl) h ?_
    rintro r9 σ2 ⟨v2, rfl, h⟩
    refine ev_if_ne 16 dX0_add_11 (by decide) (fun c9 => ?_) (fun c9 => ?_)
    · replace h := h.2 c9
      refine ev_aload_n 0 dX0_add_16 rfl ?_
      refine ev_get G0 lay_102 (k := 1) rfl (Nat.le_of_ble_eq_true rfl) dX0_add_17 w_259 ?_
      refine ev_bipush 8 dX0_add_20 (by decide) ?_
      refine ev_icmp_lt 28 dX0_add_22 (by decide) (fun c9 => ?_) (fun c9 => ?_)
      · replace h := h.1 c9
        refine ev_iconst 0 dX0_add_28 (by decide) ?_
        refine ev_istore_n (lv' := [(3, .int 0), (0, .ref 102), (1, .int x1), (2, .int x2)]) dX0_add_29 (Nat.le_of_ble_eq_true rfl) rfl ?_
        refine ev_sub [1, 2, 3, 0] rfl ?_
        exact h
      · replace h := h.2 c9
        refine ev_bipush (-3) dX0_add_25 (by decide) ?_
        exact ev_iret rfl dX0_add_27 h
    · replace h := h.1 c9
      refine ev_iconst (-1) dX0_add_14 (by decide) ?_
      exact ev_iret rfl dX0_add_15 h
theorem BX0_add_30 {N : Nat} {σ : Sg} {Q : Option Value → Sg → Prop} {x1 : Int32} {x2 : Int32} {x3 : Int32} (h : (4 ≤ x3 → Q (some (.int (((u1 σ 102 1 ((σ.1 102 1) + 1)).1 102 1) - 1))) (u1 σ 102 1 ((σ.1 102 1) + 1))) ∧ (¬ 4 ≤ x3 → vp_in (σ.1 102 1) 8 ∧ (vp_in x3 4 ∧ (KX0_add_30 N (u1 σ (104 + (σ.1 102 1).toNatClampNeg) (x3).toNatClampNeg ((((x1) >>> ((5 * (x3)) &&& 31)) &&& 31) - (((x2) >>> ((5 * (x3)) &&& 31)) &&& 31))) Q x1 x2 (x3 + 1))))) : KX0_add_30 N σ Q x1 x2 x3 := by
  refine ev_iload_n 3 dX0_add_30 rfl ?_
  refine ev_iconst 4 dX0_add_31 (by decide) ?_
  refine ev_icmp_ge 63 dX0_add_32 (by decide) (fun c9 => ?_) (fun c9 => ?_)
  · replace h := h.1 c9
    refine ev_aload_n 0 dX0_add_63 rfl ?_
    refine ev_dup dX0_add_64 rfl ?_
    refine ev_get G0 lay_102 (k := 1) rfl (Nat.le_of_ble_eq_true rfl) dX0_add_65 w_259 ?_
    refine ev_iconst 1 dX0_add_68 (by decide) ?_
    refine ev_iadd dX0_add_69 ?_
    refine ev_put G0 lay_102 (k := 1) rfl (Nat.le_of_ble_eq_true rfl) rfl (by decide +kernel) dX0_add_70 w_259 ?_
    refine ev_aload_n 0 dX0_add_73 rfl ?_
    refine ev_get G0 lay_102 (k := 1) rfl (Nat.le_of_ble_eq_true rfl) dX0_add_74 w_259 ?_
    refine ev_iconst 1 dX0_add_77 (by decide) ?_
    refine ev_isub dX0_add_78 ?_
    exact ev_iret rfl dX0_add_79 h
  · replace h := h.2 c9
    refine ev_aload_n 0 dX0_add_35 rfl ?_
    refine ev_getR (r := 103) G0 lay_102 (k := 0) rfl (Nat.le_of_ble_eq_true rfl) dX0_add_36 w_258 ?_
    refine ev_aload_n 0 dX0_add_39 rfl ?_
    refine ev_get G0 lay_102 (k := 1) rfl (Nat.le_of_ble_eq_true rfl) dX0_add_40 w_259 ?_
    have hb43 := h.1
    replace h := h.2
    refine ev_aald (b := 104) lay_103 (Nat.le_of_ble_eq_true rfl) hb43 dX0_add_43 ?_
    refine ev_iload_n 3 dX0_add_44 rfl ?_
    refine ev_iload_n 1 dX0_add_45 rfl ?_
    refine ev_iload_n 3 dX0_add_46 rfl ?_
    refine ev_callS (M' := mX0_standing) [.int x1, .int x3] vX0_standing dX0_add_47 w_768 rfl rfl (Nat.le_of_ble_eq_true rfl) (EX0_standing (Q := fun r9 s9 => σ = s9 ∧ r9 = some (.int (((x1) >>> ((5 * (x3)) &&& 31)) &&& 31))) ⟨rfl, rfl⟩) ?_
    rintro r9 s9 ⟨rfl, rfl⟩
    refine ev_iload_n 2 dX0_add_50 rfl ?_
    refine ev_iload_n 3 dX0_add_51 rfl ?_
    refine ev_callS (M' := mX0_standing) [.int x2, .int x3] vX0_standing dX0_add_52 w_768 rfl rfl (Nat.le_of_ble_eq_true rfl) (EX0_standing (Q := fun r9 s9 => σ = s9 ∧ r9 = some (.int (((x2) >>> ((5 * (x3)) &&& 31)) &&& 31))) ⟨rfl, rfl⟩) ?_
    rintro r9 s9 ⟨rfl, rfl⟩
    refine ev_isub dX0_add_55 ?_
    have hb56 := h.1
    replace h := h.2
    refine ev_iast (layr_104 _ (Nat.not_le.mp fun q9 => hb43 (Or.inr q9))).1 (layr_104 _ (Nat.not_le.mp fun q9 => hb43 (Or.inr q9))).2 hb56 dX0_add_56 ?_
    refine ev_iinc (lv' := [(3, .int (x3 + 1)), (0, .ref 102), (1, .int x1), (2, .int x2)]) (x3 + 1) 3 dX0_add_57 rfl rfl (Nat.le_of_ble_eq_true rfl) rfl ?_
    refine ev_goto 30 dX0_add_60 (by decide) ?_
    refine ev_sub [1, 2, 3, 0] rfl ?_
    exact h
abbrev KX0_areStanding_15 (N : Nat) (σ : Sg) (Q : Option Value → Sg → Prop) (x0 : Int32) (x1 : Int32) : Prop := Ev (N + 1) mX0_areStanding 15 [(0, .int x0), (1, .int x1)] [] σ Q
theorem EX0_areStanding {N : Nat} {σ : Sg} {Q : Option Value → Sg → Prop} {x0 : Int32} (h : (x0 < 0 → Q (some (.int 0)) σ) ∧ (¬ x0 < 0 → ((x0 >>> (20 &&& 31)) = 0 → KX0_areStanding_15 N σ Q x0 0) ∧ (¬ (x0 >>> (20 &&& 31)) = 0 → Q (some (.int 0)) σ))) : EvM (N + 1) mX0_areStanding [.int x0] σ Q := by
  refine ev_entry rfl (Nat.le_of_ble_eq_true rfl) (lv := [(0, .int x0)]) rfl ?_
  refine ev_iload_n 0 dX0_areStanding_0 rfl ?_
  refine ev_if_lt 11 dX0_areStanding_1 (by decide) (fun c9 => ?_) (fun c9 => ?_)
  · replace h := h.1 c9
    refine ev_iconst 0 dX0_areStanding_11 (by decide) ?_
    exact ev_zret (ty := .boolean) rfl (by rfl) dX0_areStanding_12 h
  · replace h := h.2 c9
    refine ev_iload_n 0 dX0_areStanding_4 rfl ?_
    refine ev_bipush 20 dX0_areStanding_5 (by decide) ?_
    refine ev_ishr dX0_areStanding_7 ?_
    refine ev_if_eq 13 dX0_areStanding_8 (by decide) (fun c9 => ?_) (fun c9 => ?_)
    · replace h := h.1 c9
      refine ev_iconst 0 dX0_areStanding_13 (by decide) ?_
      refine ev_istore_n (lv' := [(1, .int 0), (0, .int x0)]) dX0_areStanding_14 (Nat.le_of_ble_eq_true rfl) rfl ?_
      refine ev_sub [1, 0] rfl ?_
      exact h
    · replace h := h.2 c9
      refine ev_iconst 0 dX0_areStanding_11 (by decide) ?_
      exact ev_zret (ty := .boolean) rfl (by rfl) dX0_areStanding_12 h
theorem BX0_areStanding_15 {N : Nat} {σ : Sg} {Q : Option Value → Sg → Prop} {x0 : Int32} {x1 : Int32} (h : (4 ≤ x1 → Q (some (.int 1)) σ) ∧ (¬ 4 ≤ x1 → ((((x0) >>> ((5 * (x1)) &&& 31)) &&& 31) ≤ 20 → KX0_areStanding_15 N σ Q x0 (x1 + 1)) ∧ (¬ (((x0) >>> ((5 * (x1)) &&& 31)) &&& 31) ≤ 20 → Q (some (.int 0)) σ))) : KX0_areStanding_15 N σ Q x0 x1 := by
  refine ev_iload_n 1 dX0_areStanding_15 rfl ?_
  refine ev_iconst 4 dX0_areStanding_16 (by decide) ?_
  refine ev_icmp_ge 38 dX0_areStanding_17 (by decide) (fun c9 => ?_) (fun c9 => ?_)
  · replace h := h.1 c9
    refine ev_iconst 1 dX0_areStanding_38 (by decide) ?_
    exact ev_zret (ty := .boolean) rfl (by rfl) dX0_areStanding_39 h
  · replace h := h.2 c9
    refine ev_iload_n 0 dX0_areStanding_20 rfl ?_
    refine ev_iload_n 1 dX0_areStanding_21 rfl ?_
    refine ev_callS (M' := mX0_standing) [.int x0, .int x1] vX0_standing dX0_areStanding_22 w_768 rfl rfl (Nat.le_of_ble_eq_true rfl) (EX0_standing (Q := fun r9 s9 => σ = s9 ∧ r9 = some (.int (((x0) >>> ((5 * (x1)) &&& 31)) &&& 31))) ⟨rfl, rfl⟩) ?_
    rintro r9 s9 ⟨rfl, rfl⟩
    refine ev_bipush 20 dX0_areStanding_25 (by decide) ?_
    refine ev_icmp_le 32 dX0_areStanding_27 (by decide) (fun c9 => ?_) (fun c9 => ?_)
    · replace h := h.1 c9
      refine ev_iinc (lv' := [(1, .int (x1 + 1)), (0, .int x0)]) (x1 + 1) 1 dX0_areStanding_32 rfl rfl (Nat.le_of_ble_eq_true rfl) rfl ?_
      refine ev_goto 15 dX0_areStanding_35 (by decide) ?_
      refine ev_sub [1, 0] rfl ?_
      exact h
    · replace h := h.2 c9
      refine ev_iconst 0 dX0_areStanding_30 (by decide) ?_
      exact ev_zret (ty := .boolean) rfl (by rfl) dX0_areStanding_31 h
theorem EX0_tellFits {N : Nat} {σ : Sg} {Q : Option Value → Sg → Prop} {x1 : Int32} (h : (x1 < 0 → Q (some (.int (-1))) σ) ∧ (¬ x1 < 0 → (x1 ≤ 4 → EvM (N + 2) mX0_search [.ref 102] σ (fun r9 σ1 => r9 = none ∧ ((x1 = 0 → Q (some (.int (σ1.1 102 5))) σ1) ∧ (¬ x1 = 0 → ((σ1.1 102 5) = 0 → Q (some (.int (-4))) σ1) ∧ (¬ (σ1.1 102 5) = 0 → vp_in (x1 - 1) 4 ∧ (EvM (N + 2) mX0_valueOf [.int (σ1.1 113 (x1 - 1).toNatClampNeg)] σ1 (fun r9 σ2 => ∃ v2, r9 = some (.int v2) ∧ (Q (some (.int v2)) σ2)))))))) ∧ (¬ x1 ≤ 4 → Q (some (.int (-1))) σ))) : EvM (N + 3) mX0_tellFits [.ref 102, .int x1] σ Q := by
  refine ev_entry rfl (Nat.le_of_ble_eq_true rfl) (lv := [(0, .ref 102), (1, .int x1)]) rfl ?_
  refine ev_iload_n 1 dX0_tellFits_0 rfl ?_
  refine ev_if_lt 9 dX0_tellFits_1 (by decide) (fun c9 => ?_) (fun c9 => ?_)
  · replace h := h.1 c9
    refine ev_iconst (-1) dX0_tellFits_9 (by decide) ?_
    exact ev_iret rfl dX0_tellFits_10 h
  · replace h := h.2 c9
    refine ev_iload_n 1 dX0_tellFits_4 rfl ?_
    refine ev_iconst 4 dX0_tellFits_5 (by decide) ?_
    refine ev_icmp_le 11 dX0_tellFits_6 (by decide) (fun c9 => ?_) (fun c9 => ?_)
    · replace h := h.1 c9
      refine ev_aload_n 0 dX0_tellFits_11 rfl ?_
      refine ev_callV (M' := mX0_search) [] vX0_search G0 lay_102 dX0_tellFits_12 w_779 rfl rfl (Nat.le_of_ble_eq_true rfl) h ?_
      rintro r9 σ1 ⟨rfl, h⟩
      refine ev_iload_n 1 dX0_tellFits_15 rfl ?_
      refine ev_if_ne 24 dX0_tellFits_16 (by decide) (fun c9 => ?_) (fun c9 => ?_)
      · replace h := h.2 c9
        refine ev_aload_n 0 dX0_tellFits_24 rfl ?_
        refine ev_get G0 lay_102 (k := 5) rfl (Nat.le_of_ble_eq_true rfl) dX0_tellFits_25 w_263 ?_
        refine ev_if_ne 36 dX0_tellFits_28 (by decide) (fun c9 => ?_) (fun c9 => ?_)
        · replace h := h.2 c9
          refine ev_aload_n 0 dX0_tellFits_36 rfl ?_
          refine ev_getR (r := 113) G0 lay_102 (k := 3) rfl (Nat.le_of_ble_eq_true rfl) dX0_tellFits_37 w_261 ?_
          refine ev_iload_n 1 dX0_tellFits_40 rfl ?_
          refine ev_iconst 1 dX0_tellFits_41 (by decide) ?_
          refine ev_isub dX0_tellFits_42 ?_
          have hb43 := h.1
          replace h := h.2
          refine ev_iald lay_113 (Nat.le_of_ble_eq_true rfl) hb43 dX0_tellFits_43 ?_
          refine ev_callS (M' := mX0_valueOf) [.int (σ1.1 113 (x1 - 1).toNatClampNeg)] vX0_valueOf dX0_tellFits_44 w_792 rfl rfl (Nat.le_of_ble_eq_true rfl) h ?_
          rintro r9 σ2 ⟨v2, rfl, h⟩
          exact ev_iret rfl dX0_tellFits_47 h
        · replace h := h.1 c9
          refine ev_bipush (-4) dX0_tellFits_31 (by decide) ?_
          refine ev_goto 47 dX0_tellFits_33 (by decide) ?_
          exact ev_iret rfl dX0_tellFits_47 h
      · replace h := h.1 c9
        refine ev_aload_n 0 dX0_tellFits_19 rfl ?_
        refine ev_get G0 lay_102 (k := 5) rfl (Nat.le_of_ble_eq_true rfl) dX0_tellFits_20 w_263 ?_
        exact ev_iret rfl dX0_tellFits_23 h
    · replace h := h.2 c9
      refine ev_iconst (-1) dX0_tellFits_9 (by decide) ?_
      exact ev_iret rfl dX0_tellFits_10 h
theorem EX0_valuesSeen {N : Nat} {σ : Sg} {Q : Option Value → Sg → Prop} {x1 : Int32} (h : (x1 < 0 → Q (some (.int (-1))) σ) ∧ (¬ x1 < 0 → (x1 < 4 → EvM (N + 2) mX0_search [.ref 102] σ (fun r9 σ1 => r9 = none ∧ (vp_in x1 4 ∧ (EvM (N + 2) mJ6_bitCount_0f7a4 [.int (σ1.1 114 (x1).toNatClampNeg)] σ1 (fun r9 σ2 => ∃ v2, r9 = some (.int v2) ∧ (Q (some (.int v2)) σ2)))))) ∧ (¬ x1 < 4 → Q (some (.int (-1))) σ))) : EvM (N + 3) mX0_valuesSeen [.ref 102, .int x1] σ Q := by
  refine ev_entry rfl (Nat.le_of_ble_eq_true rfl) (lv := [(0, .ref 102), (1, .int x1)]) rfl ?_
  refine ev_iload_n 1 dX0_valuesSeen_0 rfl ?_
  refine ev_if_lt 9 dX0_valuesSeen_1 (by decide) (fun c9 => ?_) (fun c9 => ?_)
  · replace h := h.1 c9
    refine ev_iconst (-1) dX0_valuesSeen_9 (by decide) ?_
    exact ev_iret rfl dX0_valuesSeen_10 h
  · replace h := h.2 c9
    refine ev_iload_n 1 dX0_valuesSeen_4 rfl ?_
    refine ev_iconst 4 dX0_valuesSeen_5 (by decide) ?_
    refine ev_icmp_lt 11 dX0_valuesSeen_6 (by decide) (fun c9 => ?_) (fun c9 => ?_)
    · replace h := h.1 c9
      refine ev_aload_n 0 dX0_valuesSeen_11 rfl ?_
      refine ev_callV (M' := mX0_search) [] vX0_search G0 lay_102 dX0_valuesSeen_12 w_779 rfl rfl (Nat.le_of_ble_eq_true rfl) h ?_
      rintro r9 σ1 ⟨rfl, h⟩
      refine ev_aload_n 0 dX0_valuesSeen_15 rfl ?_
      refine ev_getR (r := 114) G0 lay_102 (k := 4) rfl (Nat.le_of_ble_eq_true rfl) dX0_valuesSeen_16 w_262 ?_
      refine ev_iload_n 1 dX0_valuesSeen_19 rfl ?_
      have hb20 := h.1
      replace h := h.2
      refine ev_iald lay_114 (Nat.le_of_ble_eq_true rfl) hb20 dX0_valuesSeen_20 ?_
      refine ev_callS (M' := mJ6_bitCount_0f7a4) [.int (σ1.1 114 (x1).toNatClampNeg)] vJ6_bitCount_0f7a4 dX0_valuesSeen_21 w_787 rfl rfl (Nat.le_of_ble_eq_true rfl) h ?_
      rintro r9 σ2 ⟨v2, rfl, h⟩
      exact ev_iret rfl dX0_valuesSeen_24 h
    · replace h := h.2 c9
      refine ev_iconst (-1) dX0_valuesSeen_9 (by decide) ?_
      exact ev_iret rfl dX0_valuesSeen_10 h
theorem EX0_valueOf {N : Nat} {σ : Sg} {Q : Option Value → Sg → Prop} {x0 : Int32} (h : (x0 < 0 → Q (some (.int 0)) σ) ∧ (¬ x0 < 0 → (8 ≤ x0 → Q (some (.int 0)) σ) ∧ (¬ 8 ≤ x0 → vp_in x0 8 ∧ (Q (some (.int (([1, 2, 4, 5, 6, 10, 12, 60] : List Int32).getD (x0).toNatClampNeg 0))) σ)))) : EvM N mX0_valueOf [.int x0] σ Q := by
  refine ev_entry rfl (Nat.le_of_ble_eq_true rfl) (lv := [(0, .int x0)]) rfl ?_
  refine ev_iload_n 0 dX0_valueOf_0 rfl ?_
  refine ev_if_lt 20 dX0_valueOf_1 (by decide) (fun c9 => ?_) (fun c9 => ?_)
  · replace h := h.1 c9
    refine ev_iconst 0 dX0_valueOf_20 (by decide) ?_
    exact ev_iret rfl dX0_valueOf_21 h
  · replace h := h.2 c9
    refine ev_iload_n 0 dX0_valueOf_4 rfl ?_
    refine ev_getL w_795 dX0_valueOf_5 ?_
    refine ev_lenL dX0_valueOf_8 ?_
    refine ev_icmp_ge 20 dX0_valueOf_9 (by decide) (fun c9 => ?_) (fun c9 => ?_)
    · replace h := h.1 c9
      refine ev_iconst 0 dX0_valueOf_20 (by decide) ?_
      exact ev_iret rfl dX0_valueOf_21 h
    · replace h := h.2 c9
      refine ev_getL w_795 dX0_valueOf_12 ?_
      refine ev_iload_n 0 dX0_valueOf_15 rfl ?_
      have hb := h.1
      replace h := h.2
      refine ev_ildL hb dX0_valueOf_16 ?_
      refine ev_goto 21 dX0_valueOf_17 (by decide) ?_
      exact ev_iret rfl dX0_valueOf_21 h
abbrev KX0_search_7 (N : Nat) (σ : Sg) (Q : Option Value → Sg → Prop) (x1 : Int32) : Prop := Ev (N + 2) mX0_search 7 [(0, .ref 102), (1, .int x1)] [] σ Q
abbrev KX0_search_27 (N : Nat) (σ : Sg) (Q : Option Value → Sg → Prop) (x1 : Int32) : Prop := Ev (N + 2) mX0_search 27 [(0, .ref 102), (1, .int x1)] [] σ Q
abbrev KX0_search_36 (N : Nat) (σ : Sg) (Q : Option Value → Sg → Prop) (x1 : Int32) (x2 : Int32) : Prop := Ev (N + 2) mX0_search 36 [(0, .ref 102), (1, .int x1), (2, .int x2)] [] σ Q
theorem EX0_search {N : Nat} {σ : Sg} {Q : Option Value → Sg → Prop} (h : KX0_search_7 N (u1 σ 102 5 0) Q 0) : EvM (N + 2) mX0_search [.ref 102] σ Q := by
  refine ev_entry rfl (Nat.le_of_ble_eq_true rfl) (lv := [(0, .ref 102)]) rfl ?_
  refine ev_aload_n 0 dX0_search_0 rfl ?_
  refine ev_iconst 0 dX0_search_1 (by decide) ?_
  refine ev_put G0 lay_102 (k := 5) rfl (Nat.le_of_ble_eq_true rfl) rfl (by decide +kernel) dX0_search_2 w_263 ?_
  refine ev_iconst 0 dX0_search_5 (by decide) ?_
  refine ev_istore_n (lv' := [(1, .int 0), (0, .ref 102)]) dX0_search_6 (Nat.le_of_ble_eq_true rfl) rfl ?_
  refine ev_sub [1, 0] rfl ?_
  exact h
theorem BX0_search_7 {N : Nat} {σ : Sg} {Q : Option Value → Sg → Prop} {x1 : Int32} (h : (4 ≤ x1 → KX0_search_27 N σ Q 0) ∧ (¬ 4 ≤ x1 → vp_in x1 4 ∧ (KX0_search_7 N (u1 σ 114 (x1).toNatClampNeg 0) Q (x1 + 1)))) : KX0_search_7 N σ Q x1 := by
  refine ev_iload_n 1 dX0_search_7 rfl ?_
  refine ev_iconst 4 dX0_search_8 (by decide) ?_
  refine ev_icmp_ge 25 dX0_search_9 (by decide) (fun c9 => ?_) (fun c9 => ?_)
  · replace h := h.1 c9
    refine ev_iconst 0 dX0_search_25 (by decide) ?_
    refine ev_istore_n (lv' := [(1, .int 0), (0, .ref 102)]) dX0_search_26 (Nat.le_of_ble_eq_true rfl) rfl ?_
    refine ev_sub [1, 0] rfl ?_
    exact h
  · replace h := h.2 c9
    refine ev_aload_n 0 dX0_search_12 rfl ?_
    refine ev_getR (r := 114) G0 lay_102 (k := 4) rfl (Nat.le_of_ble_eq_true rfl) dX0_search_13 w_262 ?_
    refine ev_iload_n 1 dX0_search_16 rfl ?_
    refine ev_iconst 0 dX0_search_17 (by decide) ?_
    have hb18 := h.1
    replace h := h.2
    refine ev_iast lay_114 (Nat.le_of_ble_eq_true rfl) hb18 dX0_search_18 ?_
    refine ev_iinc (lv' := [(1, .int (x1 + 1)), (0, .ref 102)]) (x1 + 1) 1 dX0_search_19 rfl rfl (Nat.le_of_ble_eq_true rfl) rfl ?_
    refine ev_goto 7 dX0_search_22 (by decide) ?_
    refine ev_sub [1, 0] rfl ?_
    exact h
theorem BX0_search_27 {N : Nat} {σ : Sg} {Q : Option Value → Sg → Prop} {x1 : Int32} (h : (4096 ≤ x1 → Q none σ) ∧ (¬ 4096 ≤ x1 → KX0_search_36 N σ Q x1 0)) : KX0_search_27 N σ Q x1 := by
  refine ev_iload_n 1 dX0_search_27 rfl ?_
  refine ev_sipush 4096 dX0_search_28 (by decide) ?_
  refine ev_icmp_ge 87 dX0_search_31 (by decide) (fun c9 => ?_) (fun c9 => ?_)
  · replace h := h.1 c9
    exact ev_vret rfl dX0_search_87 h
  · replace h := h.2 c9
    refine ev_iconst 0 dX0_search_34 (by decide) ?_
    refine ev_istore_n (lv' := [(2, .int 0), (0, .ref 102), (1, .int x1)]) dX0_search_35 (Nat.le_of_ble_eq_true rfl) rfl ?_
    refine ev_sub [1, 2, 0] rfl ?_
    exact h
theorem BX0_search_36 {N : Nat} {σ : Sg} {Q : Option Value → Sg → Prop} {x1 : Int32} {x2 : Int32} (h : (4 ≤ x2 → EvM (N + 1) mX0_areUnlike [.ref 102] σ (fun r9 σ1 => ∃ v1, r9 = some (.int v1) ∧ ((v1 = 0 → KX0_search_27 N σ1 Q (x1 + 1)) ∧ (¬ v1 = 0 → EvM (N + 1) mX0_doAddUp [.ref 102] σ1 (fun r9 σ2 => ∃ v2, r9 = some (.int v2) ∧ ((v2 = 0 → KX0_search_27 N σ2 Q (x1 + 1)) ∧ (¬ v2 = 0 → EvM (N + 1) mX0_keep [.ref 102] σ2 (fun r9 σ3 => r9 = none ∧ (KX0_search_27 N σ3 Q (x1 + 1)))))))))) ∧ (¬ 4 ≤ x2 → vp_in x2 4 ∧ (KX0_search_36 N (u1 σ 112 (x2).toNatClampNeg ((x1 >>> ((3 * (3 - x2)) &&& 31)) &&& 7)) Q x1 (x2 + 1)))) : KX0_search_36 N σ Q x1 x2 := by
  refine ev_iload_n 2 dX0_search_36 rfl ?_
  refine ev_iconst 4 dX0_search_37 (by decide) ?_
  refine ev_icmp_ge 63 dX0_search_38 (by decide) (fun c9 => ?_) (fun c9 => ?_)
  · replace h := h.1 c9
    refine ev_aload_n 0 dX0_search_63 rfl ?_
    refine ev_callV (M' := mX0_areUnlike) [] vX0_areUnlike G0 lay_102 dX0_search_64 w_783 rfl rfl (Nat.le_of_ble_eq_true rfl) h ?_
    rintro r9 σ1 ⟨v1, rfl, h⟩
    refine ev_if_eq 81 dX0_search_67 (by decide) (fun c9 => ?_) (fun c9 => ?_)
    · replace h := h.1 c9
      refine ev_iinc (lv' := [(1, .int (x1 + 1)), (0, .ref 102), (2, .int x2)]) (x1 + 1) 1 dX0_search_81 rfl rfl (Nat.le_of_ble_eq_true rfl) rfl ?_
      refine ev_goto 27 dX0_search_84 (by decide) ?_
      refine ev_sub [1, 0] rfl ?_
      exact h
    · replace h := h.2 c9
      refine ev_aload_n 0 dX0_search_70 rfl ?_
      refine ev_callV (M' := mX0_doAddUp) [] vX0_doAddUp G0 lay_102 dX0_search_71 w_788 rfl rfl (Nat.le_of_ble_eq_true rfl) h ?_
      rintro r9 σ2 ⟨v2, rfl, h⟩
      refine ev_if_eq 81 dX0_search_74 (by decide) (fun c9 => ?_) (fun c9 => ?_)
      · replace h := h.1 c9
        refine ev_iinc (lv' := [(1, .int (x1 + 1)), (0, .ref 102), (2, .int x2)]) (x1 + 1) 1 dX0_search_81 rfl rfl (Nat.le_of_ble_eq_true rfl) rfl ?_
        refine ev_goto 27 dX0_search_84 (by decide) ?_
        refine ev_sub [1, 0] rfl ?_
        exact h
      · replace h := h.2 c9
        refine ev_aload_n 0 dX0_search_77 rfl ?_
        refine ev_callV (M' := mX0_keep) [] vX0_keep G0 lay_102 dX0_search_78 w_797 rfl rfl (Nat.le_of_ble_eq_true rfl) h ?_
        rintro r9 σ3 ⟨rfl, h⟩
        refine ev_iinc (lv' := [(1, .int (x1 + 1)), (0, .ref 102), (2, .int x2)]) (x1 + 1) 1 dX0_search_81 rfl rfl (Nat.le_of_ble_eq_true rfl) rfl ?_
        refine ev_goto 27 dX0_search_84 (by decide) ?_
        refine ev_sub [1, 0] rfl ?_
        exact h
  · replace h := h.2 c9
    refine ev_aload_n 0 dX0_search_41 rfl ?_
    refine ev_getR (r := 112) G0 lay_102 (k := 2) rfl (Nat.le_of_ble_eq_true rfl) dX0_search_42 w_260 ?_
    refine ev_iload_n 2 dX0_search_45 rfl ?_
    refine ev_iload_n 1 dX0_search_46 rfl ?_
    refine ev_iconst 3 dX0_search_47 (by decide) ?_
    refine ev_iconst 3 dX0_search_48 (by decide) ?_
    refine ev_iload_n 2 dX0_search_49 rfl ?_
    refine ev_isub dX0_search_50 ?_
    refine ev_imul dX0_search_51 ?_
    refine ev_ishr dX0_search_52 ?_
    refine ev_bipush 7 dX0_search_53 (by decide) ?_
    refine ev_iand dX0_search_55 ?_
    have hb56 := h.1
    replace h := h.2
    refine ev_iast lay_112 (Nat.le_of_ble_eq_true rfl) hb56 dX0_search_56 ?_
    refine ev_iinc (lv' := [(2, .int (x2 + 1)), (0, .ref 102), (1, .int x1)]) (x2 + 1) 2 dX0_search_57 rfl rfl (Nat.le_of_ble_eq_true rfl) rfl ?_
    refine ev_goto 36 dX0_search_60 (by decide) ?_
    refine ev_sub [1, 2, 0] rfl ?_
    exact h
abbrev KX0_areUnlike_4 (N : Nat) (σ : Sg) (Q : Option Value → Sg → Prop) (x1 : Int32) (x2 : Int32) : Prop := Ev (N + 1) mX0_areUnlike 4 [(0, .ref 102), (1, .int x1), (2, .int x2)] [] σ Q
theorem EX0_areUnlike {N : Nat} {σ : Sg} {Q : Option Value → Sg → Prop} (h : KX0_areUnlike_4 N σ Q 0 0) : EvM (N + 1) mX0_areUnlike [.ref 102] σ Q := by
  refine ev_entry rfl (Nat.le_of_ble_eq_true rfl) (lv := [(0, .ref 102)]) rfl ?_
  refine ev_iconst 0 dX0_areUnlike_0 (by decide) ?_
  refine ev_istore_n (lv' := [(1, .int 0), (0, .ref 102)]) dX0_areUnlike_1 (Nat.le_of_ble_eq_true rfl) rfl ?_
  refine ev_iconst 0 dX0_areUnlike_2 (by decide) ?_
  refine ev_istore_n (lv' := [(2, .int 0), (1, .int 0), (0, .ref 102)]) dX0_areUnlike_3 (Nat.le_of_ble_eq_true rfl) rfl ?_
  refine ev_sub [2, 1, 0] rfl ?_
  exact h
theorem BX0_areUnlike_4 {N : Nat} {σ : Sg} {Q : Option Value → Sg → Prop} {x1 : Int32} {x2 : Int32} (h : (4 ≤ x2 → EvM N mJ6_bitCount_0f7a4 [.int x1] σ (fun r9 σ1 => ∃ v1, r9 = some (.int v1) ∧ ((v1 = 4 → Q (some (.int 1)) σ1) ∧ (¬ v1 = 4 → Q (some (.int 0)) σ1)))) ∧ (¬ 4 ≤ x2 → vp_in x2 4 ∧ (KX0_areUnlike_4 N σ Q (x1 ||| (1 <<< ((σ.1 112 (x2).toNatClampNeg) &&& 31))) (x2 + 1)))) : KX0_areUnlike_4 N σ Q x1 x2 := by
  refine ev_iload_n 2 dX0_areUnlike_4 rfl ?_
  refine ev_iconst 4 dX0_areUnlike_5 (by decide) ?_
  refine ev_icmp_ge 26 dX0_areUnlike_6 (by decide) (fun c9 => ?_) (fun c9 => ?_)
  · replace h := h.1 c9
    refine ev_iload_n 1 dX0_areUnlike_26 rfl ?_
    refine ev_callS (M' := mJ6_bitCount_0f7a4) [.int x1] vJ6_bitCount_0f7a4 dX0_areUnlike_27 w_787 rfl rfl (Nat.le_of_ble_eq_true rfl) h ?_
    rintro r9 σ1 ⟨v1, rfl, h⟩
    refine ev_iconst 4 dX0_areUnlike_30 (by decide) ?_
    refine ev_icmp_ne 38 dX0_areUnlike_31 (by decide) (fun c9 => ?_) (fun c9 => ?_)
    · replace h := h.2 c9
      refine ev_iconst 0 dX0_areUnlike_38 (by decide) ?_
      exact ev_zret (ty := .boolean) rfl (by rfl) dX0_areUnlike_39 h
    · replace h := h.1 c9
      refine ev_iconst 1 dX0_areUnlike_34 (by decide) ?_
      refine ev_goto 39 dX0_areUnlike_35 (by decide) ?_
      exact ev_zret (ty := .boolean) rfl (by rfl) dX0_areUnlike_39 h
  · replace h := h.2 c9
    refine ev_iload_n 1 dX0_areUnlike_9 rfl ?_
    refine ev_iconst 1 dX0_areUnlike_10 (by decide) ?_
    refine ev_aload_n 0 dX0_areUnlike_11 rfl ?_
    refine ev_getR (r := 112) G0 lay_102 (k := 2) rfl (Nat.le_of_ble_eq_true rfl) dX0_areUnlike_12 w_260 ?_
    refine ev_iload_n 2 dX0_areUnlike_15 rfl ?_
    have hb16 := h.1
    replace h := h.2
    refine ev_iald lay_112 (Nat.le_of_ble_eq_true rfl) hb16 dX0_areUnlike_16 ?_
    refine ev_ishl dX0_areUnlike_17 ?_
    refine ev_ior dX0_areUnlike_18 ?_
    refine ev_istore_n (lv' := [(1, .int (x1 ||| (1 <<< ((σ.1 112 (x2).toNatClampNeg) &&& 31)))), (0, .ref 102), (2, .int x2)]) dX0_areUnlike_19 (Nat.le_of_ble_eq_true rfl) rfl ?_
    refine ev_iinc (lv' := [(2, .int (x2 + 1)), (1, .int (x1 ||| (1 <<< ((σ.1 112 (x2).toNatClampNeg) &&& 31)))), (0, .ref 102)]) (x2 + 1) 2 dX0_areUnlike_20 rfl rfl (Nat.le_of_ble_eq_true rfl) rfl ?_
    refine ev_goto 4 dX0_areUnlike_23 (by decide) ?_
    refine ev_sub [2, 1, 0] rfl ?_
    exact h
abbrev KX0_doAddUp_2 (N : Nat) (σ : Sg) (Q : Option Value → Sg → Prop) (x1 : Int32) : Prop := Ev (N + 1) mX0_doAddUp 2 [(0, .ref 102), (1, .int x1)] [] σ Q
abbrev KX0_doAddUp_14 (N : Nat) (σ : Sg) (Q : Option Value → Sg → Prop) (x1 : Int32) (x2 : Int32) (x3 : Int32) : Prop := Ev (N + 1) mX0_doAddUp 14 [(0, .ref 102), (1, .int x1), (2, .int x2), (3, .int x3)] [] σ Q
theorem EX0_doAddUp {N : Nat} {σ : Sg} {Q : Option Value → Sg → Prop} (h : KX0_doAddUp_2 N σ Q 0) : EvM (N + 1) mX0_doAddUp [.ref 102] σ Q := by
  refine ev_entry rfl (Nat.le_of_ble_eq_true rfl) (lv := [(0, .ref 102)]) rfl ?_
  refine ev_iconst 0 dX0_doAddUp_0 (by decide) ?_
  refine ev_istore_n (lv' := [(1, .int 0), (0, .ref 102)]) dX0_doAddUp_1 (Nat.le_of_ble_eq_true rfl) rfl ?_
  refine ev_sub [1, 0] rfl ?_
  exact h
theorem BX0_doAddUp_2 {N : Nat} {σ : Sg} {Q : Option Value → Sg → Prop} {x1 : Int32} (h : ((σ.1 102 1) ≤ x1 → Q (some (.int 1)) σ) ∧ (¬ (σ.1 102 1) ≤ x1 → KX0_doAddUp_14 N σ Q x1 0 0)) : KX0_doAddUp_2 N σ Q x1 := by
  refine ev_iload_n 1 dX0_doAddUp_2 rfl ?_
  refine ev_aload_n 0 dX0_doAddUp_3 rfl ?_
  refine ev_get G0 lay_102 (k := 1) rfl (Nat.le_of_ble_eq_true rfl) dX0_doAddUp_4 w_259 ?_
  refine ev_icmp_ge 58 dX0_doAddUp_7 (by decide) (fun c9 => ?_) (fun c9 => ?_)
  · replace h := h.1 c9
    refine ev_iconst 1 dX0_doAddUp_58 (by decide) ?_
    exact ev_zret (ty := .boolean) rfl (by rfl) dX0_doAddUp_59 h
  · replace h := h.2 c9
    refine ev_iconst 0 dX0_doAddUp_10 (by decide) ?_
    refine ev_istore_n (lv' := [(2, .int 0), (0, .ref 102), (1, .int x1)]) dX0_doAddUp_11 (Nat.le_of_ble_eq_true rfl) rfl ?_
    refine ev_iconst 0 dX0_doAddUp_12 (by decide) ?_
    refine ev_istore_n (lv' := [(3, .int 0), (2, .int 0), (0, .ref 102), (1, .int x1)]) dX0_doAddUp_13 (Nat.le_of_ble_eq_true rfl) rfl ?_
    refine ev_sub [2, 3, 1, 0] rfl ?_
    exact h
theorem BX0_doAddUp_14 {N : Nat} {σ : Sg} {Q : Option Value → Sg → Prop} {x1 : Int32} {x2 : Int32} {x3 : Int32} (h : (4 ≤ x3 → (x2 = 0 → KX0_doAddUp_2 N σ Q (x1 + 1)) ∧ (¬ x2 = 0 → Q (some (.int 0)) σ)) ∧ (¬ 4 ≤ x3 → vp_in x1 8 ∧ (vp_in x3 4 ∧ (vp_in x3 4 ∧ (EvM N mX0_valueOf [.int (σ.1 112 (x3).toNatClampNeg)] σ (fun r9 σ1 => ∃ v1, r9 = some (.int v1) ∧ (KX0_doAddUp_14 N σ1 Q x1 (x2 + ((σ.1 (104 + (x1).toNatClampNeg) (x3).toNatClampNeg) * v1)) (x3 + 1)))))))) : KX0_doAddUp_14 N σ Q x1 x2 x3 := by
  refine ev_iload_n 3 dX0_doAddUp_14 rfl ?_
  refine ev_iconst 4 dX0_doAddUp_15 (by decide) ?_
  refine ev_icmp_ge 46 dX0_doAddUp_16 (by decide) (fun c9 => ?_) (fun c9 => ?_)
  · replace h := h.1 c9
    refine ev_iload_n 2 dX0_doAddUp_46 rfl ?_
    refine ev_if_eq 52 dX0_doAddUp_47 (by decide) (fun c9 => ?_) (fun c9 => ?_)
    · replace h := h.1 c9
      refine ev_iinc (lv' := [(1, .int (x1 + 1)), (0, .ref 102), (2, .int x2), (3, .int x3)]) (x1 + 1) 1 dX0_doAddUp_52 rfl rfl (Nat.le_of_ble_eq_true rfl) rfl ?_
      refine ev_goto 2 dX0_doAddUp_55 (by decide) ?_
      refine ev_sub [1, 0] rfl ?_
      exact h
    · replace h := h.2 c9
      refine ev_iconst 0 dX0_doAddUp_50 (by decide) ?_
      exact ev_zret (ty := .boolean) rfl (by rfl) dX0_doAddUp_51 h
  · replace h := h.2 c9
    refine ev_iload_n 2 dX0_doAddUp_19 rfl ?_
    refine ev_aload_n 0 dX0_doAddUp_20 rfl ?_
    refine ev_getR (r := 103) G0 lay_102 (k := 0) rfl (Nat.le_of_ble_eq_true rfl) dX0_doAddUp_21 w_258 ?_
    refine ev_iload_n 1 dX0_doAddUp_24 rfl ?_
    have hb25 := h.1
    replace h := h.2
    refine ev_aald (b := 104) lay_103 (Nat.le_of_ble_eq_true rfl) hb25 dX0_doAddUp_25 ?_
    refine ev_iload_n 3 dX0_doAddUp_26 rfl ?_
    have hb27 := h.1
    replace h := h.2
    refine ev_iald (layr_104 _ (Nat.not_le.mp fun q9 => hb25 (Or.inr q9))).1 (layr_104 _ (Nat.not_le.mp fun q9 => hb25 (Or.inr q9))).2 hb27 dX0_doAddUp_27 ?_
    refine ev_aload_n 0 dX0_doAddUp_28 rfl ?_
    refine ev_getR (r := 112) G0 lay_102 (k := 2) rfl (Nat.le_of_ble_eq_true rfl) dX0_doAddUp_29 w_260 ?_
    refine ev_iload_n 3 dX0_doAddUp_32 rfl ?_
    have hb33 := h.1
    replace h := h.2
    refine ev_iald lay_112 (Nat.le_of_ble_eq_true rfl) hb33 dX0_doAddUp_33 ?_
    refine ev_callS (M' := mX0_valueOf) [.int (σ.1 112 (x3).toNatClampNeg)] vX0_valueOf dX0_doAddUp_34 w_792 rfl rfl (Nat.le_of_ble_eq_true rfl) h ?_
    rintro r9 σ1 ⟨v1, rfl, h⟩
    refine ev_imul dX0_doAddUp_37 ?_
    refine ev_iadd dX0_doAddUp_38 ?_
    refine ev_istore_n (lv' := [(2, .int (x2 + ((σ.1 (104 + (x1).toNatClampNeg) (x3).toNatClampNeg) * v1))), (0, .ref 102), (1, .int x1), (3, .int x3)]) dX0_doAddUp_39 (Nat.le_of_ble_eq_true rfl) rfl ?_
    refine ev_iinc (lv' := [(3, .int (x3 + 1)), (2, .int (x2 + ((σ.1 (104 + (x1).toNatClampNeg) (x3).toNatClampNeg) * v1))), (0, .ref 102), (1, .int x1)]) (x3 + 1) 3 dX0_doAddUp_40 rfl rfl (Nat.le_of_ble_eq_true rfl) rfl ?_
    refine ev_goto 14 dX0_doAddUp_43 (by decide) ?_
    refine ev_sub [2, 3, 1, 0] rfl ?_
    exact h
abbrev KX0_keep_2 (N : Nat) (σ : Sg) (Q : Option Value → Sg → Prop) (x1 : Int32) : Prop := Ev N mX0_keep 2 [(0, .ref 102), (1, .int x1)] [] σ Q
theorem EX0_keep {N : Nat} {σ : Sg} {Q : Option Value → Sg → Prop} (h : KX0_keep_2 N σ Q 0) : EvM N mX0_keep [.ref 102] σ Q := by
  refine ev_entry rfl (Nat.le_of_ble_eq_true rfl) (lv := [(0, .ref 102)]) rfl ?_
  refine ev_iconst 0 dX0_keep_0 (by decide) ?_
  refine ev_istore_n (lv' := [(1, .int 0), (0, .ref 102)]) dX0_keep_1 (Nat.le_of_ble_eq_true rfl) rfl ?_
  refine ev_sub [1, 0] rfl ?_
  exact h
theorem BX0_keep_2 {N : Nat} {σ : Sg} {Q : Option Value → Sg → Prop} {x1 : Int32} (h : (4 ≤ x1 → Q none (u1 σ 102 5 ((σ.1 102 5) + 1))) ∧ (¬ 4 ≤ x1 → ((σ.1 102 5) = 0 → vp_in x1 4 ∧ (vp_in x1 4 ∧ (vp_in x1 4 ∧ (vp_in x1 4 ∧ (vp_in x1 4 ∧ (KX0_keep_2 N (u1 (u1 σ 113 (x1).toNatClampNeg (σ.1 112 (x1).toNatClampNeg)) 114 (x1).toNatClampNeg (((u1 σ 113 (x1).toNatClampNeg (σ.1 112 (x1).toNatClampNeg)).1 114 (x1).toNatClampNeg) ||| (1 <<< (((u1 σ 113 (x1).toNatClampNeg (σ.1 112 (x1).toNatClampNeg)).1 112 (x1).toNatClampNeg) &&& 31)))) Q (x1 + 1))))))) ∧ (¬ (σ.1 102 5) = 0 → vp_in x1 4 ∧ (vp_in x1 4 ∧ (vp_in x1 4 ∧ (KX0_keep_2 N (u1 σ 114 (x1).toNatClampNeg ((σ.1 114 (x1).toNatClampNeg) ||| (1 <<< ((σ.1 112 (x1).toNatClampNeg) &&& 31)))) Q (x1 + 1))))))) : KX0_keep_2 N σ Q x1 := by
  refine ev_iload_n 1 dX0_keep_2 rfl ?_
  refine ev_iconst 4 dX0_keep_3 (by decide) ?_
  refine ev_icmp_ge 49 dX0_keep_4 (by decide) (fun c9 => ?_) (fun c9 => ?_)
  · replace h := h.1 c9
    refine ev_aload_n 0 dX0_keep_49 rfl ?_
    refine ev_dup dX0_keep_50 rfl ?_
    refine ev_get G0 lay_102 (k := 5) rfl (Nat.le_of_ble_eq_true rfl) dX0_keep_51 w_263 ?_
    refine ev_iconst 1 dX0_keep_54 (by decide) ?_
    refine ev_iadd dX0_keep_55 ?_
    refine ev_put G0 lay_102 (k := 5) rfl (Nat.le_of_ble_eq_true rfl) rfl (by decide +kernel) dX0_keep_56 w_263 ?_
    exact ev_vret rfl dX0_keep_59 h
  · replace h := h.2 c9
    refine ev_aload_n 0 dX0_keep_7 rfl ?_
    refine ev_get G0 lay_102 (k := 5) rfl (Nat.le_of_ble_eq_true rfl) dX0_keep_8 w_263 ?_
    refine ev_if_ne 26 dX0_keep_11 (by decide) (fun c9 => ?_) (fun c9 => ?_)
    · replace h := h.2 c9
      refine ev_aload_n 0 dX0_keep_26 rfl ?_
      refine ev_getR (r := 114) G0 lay_102 (k := 4) rfl (Nat.le_of_ble_eq_true rfl) dX0_keep_27 w_262 ?_
      refine ev_iload_n 1 dX0_keep_30 rfl ?_
      refine ev_dup2 dX0_keep_31 rfl rfl ?_
      have hb32 := h.1
      replace h := h.2
      refine ev_iald lay_114 (Nat.le_of_ble_eq_true rfl) hb32 dX0_keep_32 ?_
      refine ev_iconst 1 dX0_keep_33 (by decide) ?_
      refine ev_aload_n 0 dX0_keep_34 rfl ?_
      refine ev_getR (r := 112) G0 lay_102 (k := 2) rfl (Nat.le_of_ble_eq_true rfl) dX0_keep_35 w_260 ?_
      refine ev_iload_n 1 dX0_keep_38 rfl ?_
      have hb39 := h.1
      replace h := h.2
      refine ev_iald lay_112 (Nat.le_of_ble_eq_true rfl) hb39 dX0_keep_39 ?_
      refine ev_ishl dX0_keep_40 ?_
      refine ev_ior dX0_keep_41 ?_
      have hb42 := h.1
      replace h := h.2
      refine ev_iast lay_114 (Nat.le_of_ble_eq_true rfl) hb42 dX0_keep_42 ?_
      refine ev_iinc (lv' := [(1, .int (x1 + 1)), (0, .ref 102)]) (x1 + 1) 1 dX0_keep_43 rfl rfl (Nat.le_of_ble_eq_true rfl) rfl ?_
      refine ev_goto 2 dX0_keep_46 (by decide) ?_
      refine ev_sub [1, 0] rfl ?_
      exact h
    · replace h := h.1 c9
      refine ev_aload_n 0 dX0_keep_14 rfl ?_
      refine ev_getR (r := 113) G0 lay_102 (k := 3) rfl (Nat.le_of_ble_eq_true rfl) dX0_keep_15 w_261 ?_
      refine ev_iload_n 1 dX0_keep_18 rfl ?_
      refine ev_aload_n 0 dX0_keep_19 rfl ?_
      refine ev_getR (r := 112) G0 lay_102 (k := 2) rfl (Nat.le_of_ble_eq_true rfl) dX0_keep_20 w_260 ?_
      refine ev_iload_n 1 dX0_keep_23 rfl ?_
      have hb24 := h.1
      replace h := h.2
      refine ev_iald lay_112 (Nat.le_of_ble_eq_true rfl) hb24 dX0_keep_24 ?_
      have hb25 := h.1
      replace h := h.2
      refine ev_iast lay_113 (Nat.le_of_ble_eq_true rfl) hb25 dX0_keep_25 ?_
      refine ev_aload_n 0 dX0_keep_26 rfl ?_
      refine ev_getR (r := 114) G0 lay_102 (k := 4) rfl (Nat.le_of_ble_eq_true rfl) dX0_keep_27 w_262 ?_
      refine ev_iload_n 1 dX0_keep_30 rfl ?_
      refine ev_dup2 dX0_keep_31 rfl rfl ?_
      have hb32 := h.1
      replace h := h.2
      refine ev_iald lay_114 (Nat.le_of_ble_eq_true rfl) hb32 dX0_keep_32 ?_
      refine ev_iconst 1 dX0_keep_33 (by decide) ?_
      refine ev_aload_n 0 dX0_keep_34 rfl ?_
      refine ev_getR (r := 112) G0 lay_102 (k := 2) rfl (Nat.le_of_ble_eq_true rfl) dX0_keep_35 w_260 ?_
      refine ev_iload_n 1 dX0_keep_38 rfl ?_
      have hb39 := h.1
      replace h := h.2
      refine ev_iald lay_112 (Nat.le_of_ble_eq_true rfl) hb39 dX0_keep_39 ?_
      refine ev_ishl dX0_keep_40 ?_
      refine ev_ior dX0_keep_41 ?_
      have hb42 := h.1
      replace h := h.2
      refine ev_iast lay_114 (Nat.le_of_ble_eq_true rfl) hb42 dX0_keep_42 ?_
      refine ev_iinc (lv' := [(1, .int (x1 + 1)), (0, .ref 102)]) (x1 + 1) 1 dX0_keep_43 rfl rfl (Nat.le_of_ble_eq_true rfl) rfl ?_
      refine ev_goto 2 dX0_keep_46 (by decide) ?_
      refine ev_sub [1, 0] rfl ?_
      exact h
abbrev KX1_withdrawn_4 (N : Nat) (σ : Sg) (Q : Option Value → Sg → Prop) (x1 : Int32) (x2 : Int32) : Prop := Ev N mX1_withdrawn 4 [(0, .ref 230), (1, .int x1), (2, .int x2)] [] σ Q
theorem EX1_withdrawn {N : Nat} {σ : Sg} {Q : Option Value → Sg → Prop} (h : KX1_withdrawn_4 N σ Q 0 0) : EvM N mX1_withdrawn [.ref 230] σ Q := by
  refine ev_entry rfl (Nat.le_of_ble_eq_true rfl) (lv := [(0, .ref 230)]) rfl ?_
  refine ev_iconst 0 dX1_withdrawn_0 (by decide) ?_
  refine ev_istore_n (lv' := [(1, .int 0), (0, .ref 230)]) dX1_withdrawn_1 (Nat.le_of_ble_eq_true rfl) rfl ?_
  refine ev_iconst 0 dX1_withdrawn_2 (by decide) ?_
  refine ev_istore_n (lv' := [(2, .int 0), (1, .int 0), (0, .ref 230)]) dX1_withdrawn_3 (Nat.le_of_ble_eq_true rfl) rfl ?_
  refine ev_sub [2, 1, 0] rfl ?_
  exact h
theorem BX1_withdrawn_4 {N : Nat} {σ : Sg} {Q : Option Value → Sg → Prop} {x1 : Int32} {x2 : Int32} (h : ((σ.1 230 7) ≤ x2 → Q (some (.int x1)) σ) ∧ (¬ (σ.1 230 7) ≤ x2 → vp_in x2 20 ∧ (((σ.1 234 (x2).toNatClampNeg) = (-4) → KX1_withdrawn_4 N σ Q x1 (x2 + 1)) ∧ (¬ (σ.1 234 (x2).toNatClampNeg) = (-4) → KX1_withdrawn_4 N σ Q (x1 + 1) (x2 + 1))))) : KX1_withdrawn_4 N σ Q x1 x2 := by
  refine ev_iload_n 2 dX1_withdrawn_4 rfl ?_
  refine ev_aload_n 0 dX1_withdrawn_5 rfl ?_
  refine ev_get G1 lay_230 (k := 7) rfl (Nat.le_of_ble_eq_true rfl) dX1_withdrawn_6 w_364 ?_
  refine ev_icmp_ge 32 dX1_withdrawn_9 (by decide) (fun c9 => ?_) (fun c9 => ?_)
  · replace h := h.1 c9
    refine ev_iload_n 1 dX1_withdrawn_32 rfl ?_
    exact ev_iret rfl dX1_withdrawn_33 h
  · replace h := h.2 c9
    refine ev_aload_n 0 dX1_withdrawn_12 rfl ?_
    refine ev_getR (r := 234) G1 lay_230 (k := 4) rfl (Nat.le_of_ble_eq_true rfl) dX1_withdrawn_13 w_361 ?_
    refine ev_iload_n 2 dX1_withdrawn_16 rfl ?_
    have hb17 := h.1
    replace h := h.2
    refine ev_iald lay_234 (Nat.le_of_ble_eq_true rfl) hb17 dX1_withdrawn_17 ?_
    refine ev_bipush (-4) dX1_withdrawn_18 (by decide) ?_
    refine ev_icmp_eq 26 dX1_withdrawn_20 (by decide) (fun c9 => ?_) (fun c9 => ?_)
    · replace h := h.1 c9
      refine ev_iinc (lv' := [(2, .int (x2 + 1)), (0, .ref 230), (1, .int x1)]) (x2 + 1) 2 dX1_withdrawn_26 rfl rfl (Nat.le_of_ble_eq_true rfl) rfl ?_
      refine ev_goto 4 dX1_withdrawn_29 (by decide) ?_
      refine ev_sub [1, 2, 0] rfl ?_
      exact h
    · replace h := h.2 c9
      refine ev_iinc (lv' := [(1, .int (x1 + 1)), (0, .ref 230), (2, .int x2)]) (x1 + 1) 1 dX1_withdrawn_23 rfl rfl (Nat.le_of_ble_eq_true rfl) rfl ?_
      refine ev_iinc (lv' := [(2, .int (x2 + 1)), (1, .int (x1 + 1)), (0, .ref 230)]) (x2 + 1) 2 dX1_withdrawn_26 rfl rfl (Nat.le_of_ble_eq_true rfl) rfl ?_
      refine ev_goto 4 dX1_withdrawn_29 (by decide) ?_
      refine ev_sub [2, 1, 0] rfl ?_
      exact h
abbrev KX1_take_27 (N : Nat) (σ : Sg) (Q : Option Value → Sg → Prop) (x1 : Int32) : Prop := Ev (N + 11) mX1_take 27 [(0, .ref 230), (1, .int x1)] [] σ Q
theorem EX1_take {N : Nat} {σ : Sg} {Q : Option Value → Sg → Prop} (h : EvM (N + 10) mX6_rewind [.ref 228] σ (fun r9 σ1 => r9 = none ∧ (KX1_take_27 N (u1 (u1 (u1 σ1 230 8 (σ1.1 230 7)) 230 9 0) 230 10 0) Q 0))) : EvM (N + 11) mX1_take [.ref 230] σ Q := by
  refine ev_entry rfl (Nat.le_of_ble_eq_true rfl) (lv := [(0, .ref 230)]) rfl ?_
  refine ev_aload_n 0 dX1_take_0 rfl ?_
  refine ev_getR (r := 228) G1 lay_230 (k := 0) rfl (Nat.le_of_ble_eq_true rfl) dX1_take_1 w_357 ?_
  refine ev_callV (M' := mX6_rewind) [] vX6_rewind G6 lay_228 dX1_take_4 w_991 rfl rfl (Nat.le_of_ble_eq_true rfl) h ?_
  rintro r9 σ1 ⟨rfl, h⟩
  refine ev_aload_n 0 dX1_take_7 rfl ?_
  refine ev_aload_n 0 dX1_take_8 rfl ?_
  refine ev_get G1 lay_230 (k := 7) rfl (Nat.le_of_ble_eq_true rfl) dX1_take_9 w_364 ?_
  refine ev_put G1 lay_230 (k := 8) rfl (Nat.le_of_ble_eq_true rfl) rfl (by decide +kernel) dX1_take_12 w_365 ?_
  refine ev_aload_n 0 dX1_take_15 rfl ?_
  refine ev_iconst 0 dX1_take_16 (by decide) ?_
  refine ev_put G1 lay_230 (k := 9) rfl (Nat.le_of_ble_eq_true rfl) rfl (by decide +kernel) dX1_take_17 w_366 ?_
  refine ev_aload_n 0 dX1_take_20 rfl ?_
  refine ev_iconst 0 dX1_take_21 (by decide) ?_
  refine ev_put G1 lay_230 (k := 10) rfl (Nat.le_of_ble_eq_true rfl) rfl (by decide +kernel) dX1_take_22 w_367 ?_
  refine ev_iconst 0 dX1_take_25 (by decide) ?_
  refine ev_istore_n (lv' := [(1, .int 0), (0, .ref 230)]) dX1_take_26 (Nat.le_of_ble_eq_true rfl) rfl ?_
  refine ev_sub [1, 0] rfl ?_
  exact h
theorem BX1_take_27 {N : Nat} {σ : Sg} {Q : Option Value → Sg → Prop} {x1 : Int32} (h : (160 < x1 → EvM (N + 10) mX6_cut [.ref 228, .int 0] σ (fun r9 σ2 => ∃ v2, r9 = some (.int v2) ∧ (((σ2.1 230 10) = 0 → Q (some (.int ((σ2.1 230 8) - (σ2.1 230 7)))) (u1 σ2 230 7 (σ2.1 230 8))) ∧ (¬ (σ2.1 230 10) = 0 → Q (some (.int ((-10) - (σ2.1 228 3)))) σ2)))) ∧ (¬ 160 < x1 → EvM (N + 10) mX6_nextToken [.ref 228] σ (fun r9 σ3 => ∃ v3, r9 = some (.int v3) ∧ ((v3 = 1 → ((σ3.1 230 9) = 0 → EvM (N + 10) mX6_cut [.ref 228, .int 0] σ3 (fun r9 σ8 => ∃ v8, r9 = some (.int v8) ∧ (((σ8.1 230 10) = 0 → Q (some (.int ((σ8.1 230 8) - (σ8.1 230 7)))) (u1 σ8 230 7 (σ8.1 230 8))) ∧ (¬ (σ8.1 230 10) = 0 → Q (some (.int ((-10) - (σ8.1 228 3)))) σ8)))) ∧ (¬ (σ3.1 230 9) = 0 → EvM (N + 10) mX1_follow [.ref 230, .int v3, .int (σ3.1 228 4)] σ3 (fun r9 σ6 => ∃ v6, r9 = some (.int v6) ∧ ((((u1 σ6 230 10 v6).1 230 10) = 0 → KX1_take_27 N (u1 σ6 230 10 v6) Q (x1 + 1)) ∧ (¬ ((u1 σ6 230 10 v6).1 230 10) = 0 → EvM (N + 10) mX6_cut [.ref 228, .int 0] (u1 σ6 230 10 v6) (fun r9 σ7 => ∃ v7, r9 = some (.int v7) ∧ (((σ7.1 230 10) = 0 → Q (some (.int ((σ7.1 230 8) - (σ7.1 230 7)))) (u1 σ7 230 7 (σ7.1 230 8))) ∧ (¬ (σ7.1 230 10) = 0 → Q (some (.int ((-10) - (σ7.1 228 3)))) σ7)))))))) ∧ (¬ v3 = 1 → EvM (N + 10) mX1_follow [.ref 230, .int v3, .int (σ3.1 228 4)] σ3 (fun r9 σ4 => ∃ v4, r9 = some (.int v4) ∧ ((((u1 σ4 230 10 v4).1 230 10) = 0 → KX1_take_27 N (u1 σ4 230 10 v4) Q (x1 + 1)) ∧ (¬ ((u1 σ4 230 10 v4).1 230 10) = 0 → EvM (N + 10) mX6_cut [.ref 228, .int 0] (u1 σ4 230 10 v4) (fun r9 σ5 => ∃ v5, r9 = some (.int v5) ∧ (((σ5.1 230 10) = 0 → Q (some (.int ((σ5.1 230 8) - (σ5.1 230 7)))) (u1 σ5 230 7 (σ5.1 230 8))) ∧ (¬ (σ5.1 230 10) = 0 → Q (some (.int ((-10) - (σ5.1 228 3)))) σ5))))))))))) : KX1_take_27 N σ Q x1 := by
  refine ev_iload_n 1 dX1_take_27 rfl ?_
  refine ev_sipush 160 dX1_take_28 (by decide) ?_
  refine ev_icmp_gt 89 dX1_take_31 (by decide) (fun c9 => ?_) (fun c9 => ?_)
  · replace h := h.1 c9
    refine ev_aload_n 0 dX1_take_89 rfl ?_
    refine ev_getR (r := 228) G1 lay_230 (k := 0) rfl (Nat.le_of_ble_eq_true rfl) dX1_take_90 w_357 ?_
    refine ev_iconst 0 dX1_take_93 (by decide) ?_
    refine ev_callV (M' := mX6_cut) [.int 0] vX6_cut G6 lay_228 dX1_take_94 w_1103 rfl rfl (Nat.le_of_ble_eq_true rfl) h ?_
    rintro r9 σ2 ⟨v2, rfl, h⟩
    refine ev_pop dX1_take_97 rfl ?_
    refine ev_aload_n 0 dX1_take_98 rfl ?_
    refine ev_get G1 lay_230 (k := 10) rfl (Nat.le_of_ble_eq_true rfl) dX1_take_99 w_367 ?_
    refine ev_if_eq 116 dX1_take_102 (by decide) (fun c9 => ?_) (fun c9 => ?_)
    · replace h := h.1 c9
      refine ev_aload_n 0 dX1_take_116 rfl ?_
      refine ev_get G1 lay_230 (k := 8) rfl (Nat.le_of_ble_eq_true rfl) dX1_take_117 w_365 ?_
      refine ev_aload_n 0 dX1_take_120 rfl ?_
      refine ev_get G1 lay_230 (k := 7) rfl (Nat.le_of_ble_eq_true rfl) dX1_take_121 w_364 ?_
      refine ev_isub dX1_take_124 ?_
      refine ev_istore_n (lv' := [(1, .int ((σ2.1 230 8) - (σ2.1 230 7))), (0, .ref 230)]) dX1_take_125 (Nat.le_of_ble_eq_true rfl) rfl ?_
      refine ev_aload_n 1 dX1_take_126 rfl ?_
      refine ev_aload_n 1 dX1_take_127 rfl ?_
      refine ev_get G1 lay_230 (k := 8) rfl (Nat.le_of_ble_eq_true rfl) dX1_take_128 w_365 ?_
      refine ev_put G1 lay_230 (k := 7) rfl (Nat.le_of_ble_eq_true rfl) rfl (by decide +kernel) dX1_take_131 w_364 ?_
      refine ev_iload_n 0 dX1_take_134 rfl ?_
      exact ev_iret rfl dX1_take_135 h
    · replace h := h.2 c9
      refine ev_bipush (-10) dX1_take_105 (by decide) ?_
      refine ev_aload_n 0 dX1_take_107 rfl ?_
      refine ev_getR (r := 228) G1 lay_230 (k := 0) rfl (Nat.le_of_ble_eq_true rfl) dX1_take_108 w_357 ?_
      refine ev_callV (M' := mX6_start) [] vX6_start G6 lay_228 dX1_take_111 w_1104 rfl rfl (Nat.le_of_ble_eq_true rfl) (EX6_start (Q := fun r9 s9 => σ2 = s9 ∧ r9 = some (.int (σ2.1 228 3))) ⟨rfl, rfl⟩) ?_
      rintro r9 s9 ⟨rfl, rfl⟩
      refine ev_isub dX1_take_114 ?_
      exact ev_iret rfl dX1_take_115 h
  · replace h := h.2 c9
    refine ev_aload_n 0 dX1_take_34 rfl ?_
    refine ev_getR (r := 228) G1 lay_230 (k := 0) rfl (Nat.le_of_ble_eq_true rfl) dX1_take_35 w_357 ?_
    refine ev_callV (M' := mX6_nextToken) [] vX6_nextToken G6 lay_228 dX1_take_38 w_995 rfl rfl (Nat.le_of_ble_eq_true rfl) h ?_
    rintro r9 σ3 ⟨v3, rfl, h⟩
    refine ev_istore_n (lv' := [(2, .int v3), (0, .ref 230), (1, .int x1)]) dX1_take_41 (Nat.le_of_ble_eq_true rfl) rfl ?_
    refine ev_iload_n 0 dX1_take_42 rfl ?_
    refine ev_iconst 1 dX1_take_43 (by decide) ?_
    refine ev_icmp_ne 57 dX1_take_44 (by decide) (fun c9 => ?_) (fun c9 => ?_)
    · replace h := h.2 c9
      refine ev_aload_n 1 dX1_take_57 rfl ?_
      refine ev_aload_n 1 dX1_take_58 rfl ?_
      refine ev_iload_n 0 dX1_take_59 rfl ?_
      refine ev_aload_n 1 dX1_take_60 rfl ?_
      refine ev_getR (r := 228) G1 lay_230 (k := 0) rfl (Nat.le_of_ble_eq_true rfl) dX1_take_61 w_357 ?_
      refine ev_callV (M' := mX6_value) [] vX6_value G6 lay_228 dX1_take_64 w_1074 rfl rfl (Nat.le_of_ble_eq_true rfl) (EX6_value (Q := fun r9 s9 => σ3 = s9 ∧ r9 = some (.int (σ3.1 228 4))) ⟨rfl, rfl⟩) ?_
      rintro r9 s9 ⟨rfl, rfl⟩
      refine ev_callV (M' := mX1_follow) [.int v3, .int (σ3.1 228 4)] vX1_follow G1 lay_230 dX1_take_67 w_1078 rfl rfl (Nat.le_of_ble_eq_true rfl) h ?_
      rintro r9 σ4 ⟨v4, rfl, h⟩
      refine ev_put G1 lay_230 (k := 10) rfl (Nat.le_of_ble_eq_true rfl) rfl (by decide +kernel) dX1_take_70 w_367 ?_
      refine ev_aload_n 1 dX1_take_73 rfl ?_
      refine ev_get G1 lay_230 (k := 10) rfl (Nat.le_of_ble_eq_true rfl) dX1_take_74 w_367 ?_
      refine ev_if_eq 83 dX1_take_77 (by decide) (fun c9 => ?_) (fun c9 => ?_)
      · replace h := h.1 c9
        refine ev_iinc (lv' := [(1, .int (x1 + 1)), (2, .int v3), (0, .ref 230)]) (x1 + 1) 2 dX1_take_83 rfl rfl (Nat.le_of_ble_eq_true rfl) rfl ?_
        refine ev_goto 27 dX1_take_86 (by decide) ?_
        refine ev_sub [2, 0] rfl ?_
        exact h
      · replace h := h.2 c9
        refine ev_goto 89 dX1_take_80 (by decide) ?_
        refine ev_aload_n 1 dX1_take_89 rfl ?_
        refine ev_getR (r := 228) G1 lay_230 (k := 0) rfl (Nat.le_of_ble_eq_true rfl) dX1_take_90 w_357 ?_
        refine ev_iconst 0 dX1_take_93 (by decide) ?_
        refine ev_callV (M' := mX6_cut) [.int 0] vX6_cut G6 lay_228 dX1_take_94 w_1103 rfl rfl (Nat.le_of_ble_eq_true rfl) h ?_
        rintro r9 σ5 ⟨v5, rfl, h⟩
        refine ev_pop dX1_take_97 rfl ?_
        refine ev_aload_n 1 dX1_take_98 rfl ?_
        refine ev_get G1 lay_230 (k := 10) rfl (Nat.le_of_ble_eq_true rfl) dX1_take_99 w_367 ?_
        refine ev_if_eq 116 dX1_take_102 (by decide) (fun c9 => ?_) (fun c9 => ?_)
        · replace h := h.1 c9
          refine ev_aload_n 1 dX1_take_116 rfl ?_
          refine ev_get G1 lay_230 (k := 8) rfl (Nat.le_of_ble_eq_true rfl) dX1_take_117 w_365 ?_
          refine ev_aload_n 1 dX1_take_120 rfl ?_
          refine ev_get G1 lay_230 (k := 7) rfl (Nat.le_of_ble_eq_true rfl) dX1_take_121 w_364 ?_
          refine ev_isub dX1_take_124 ?_
          refine ev_istore_n (lv' := [(1, .int ((σ5.1 230 8) - (σ5.1 230 7))), (2, .int v3), (0, .ref 230)]) dX1_take_125 (Nat.le_of_ble_eq_true rfl) rfl ?_
          refine ev_aload_n 2 dX1_take_126 rfl ?_
          refine ev_aload_n 2 dX1_take_127 rfl ?_
          refine ev_get G1 lay_230 (k := 8) rfl (Nat.le_of_ble_eq_true rfl) dX1_take_128 w_365 ?_
          refine ev_put G1 lay_230 (k := 7) rfl (Nat.le_of_ble_eq_true rfl) rfl (by decide +kernel) dX1_take_131 w_364 ?_
          refine ev_iload_n 0 dX1_take_134 rfl ?_
          exact ev_iret rfl dX1_take_135 h
        · replace h := h.2 c9
          refine ev_bipush (-10) dX1_take_105 (by decide) ?_
          refine ev_aload_n 1 dX1_take_107 rfl ?_
          refine ev_getR (r := 228) G1 lay_230 (k := 0) rfl (Nat.le_of_ble_eq_true rfl) dX1_take_108 w_357 ?_
          refine ev_callV (M' := mX6_start) [] vX6_start G6 lay_228 dX1_take_111 w_1104 rfl rfl (Nat.le_of_ble_eq_true rfl) (EX6_start (Q := fun r9 s9 => σ5 = s9 ∧ r9 = some (.int (σ5.1 228 3))) ⟨rfl, rfl⟩) ?_
          rintro r9 s9 ⟨rfl, rfl⟩
          refine ev_isub dX1_take_114 ?_
          exact ev_iret rfl dX1_take_115 h
    · replace h := h.1 c9
      refine ev_aload_n 1 dX1_take_47 rfl ?_
      refine ev_get G1 lay_230 (k := 9) rfl (Nat.le_of_ble_eq_true rfl) dX1_take_48 w_366 ?_
      refine ev_if_ne 57 dX1_take_51 (by decide) (fun c9 => ?_) (fun c9 => ?_)
      · replace h := h.2 c9
        refine ev_aload_n 1 dX1_take_57 rfl ?_
        refine ev_aload_n 1 dX1_take_58 rfl ?_
        refine ev_iload_n 0 dX1_take_59 rfl ?_
        refine ev_aload_n 1 dX1_take_60 rfl ?_
        refine ev_getR (r := 228) G1 lay_230 (k := 0) rfl (Nat.le_of_ble_eq_true rfl) dX1_take_61 w_357 ?_
        refine ev_callV (M' := mX6_value) [] vX6_value G6 lay_228 dX1_take_64 w_1074 rfl rfl (Nat.le_of_ble_eq_true rfl) (EX6_value (Q := fun r9 s9 => σ3 = s9 ∧ r9 = some (.int (σ3.1 228 4))) ⟨rfl, rfl⟩) ?_
        rintro r9 s9 ⟨rfl, rfl⟩
        refine ev_callV (M' := mX1_follow) [.int v3, .int (σ3.1 228 4)] vX1_follow G1 lay_230 dX1_take_67 w_1078 rfl rfl (Nat.le_of_ble_eq_true rfl) h ?_
        rintro r9 σ6 ⟨v6, rfl, h⟩
        refine ev_put G1 lay_230 (k := 10) rfl (Nat.le_of_ble_eq_true rfl) rfl (by decide +kernel) dX1_take_70 w_367 ?_
        refine ev_aload_n 1 dX1_take_73 rfl ?_
        refine ev_get G1 lay_230 (k := 10) rfl (Nat.le_of_ble_eq_true rfl) dX1_take_74 w_367 ?_
        refine ev_if_eq 83 dX1_take_77 (by decide) (fun c9 => ?_) (fun c9 => ?_)
        · replace h := h.1 c9
          refine ev_iinc (lv' := [(1, .int (x1 + 1)), (2, .int v3), (0, .ref 230)]) (x1 + 1) 2 dX1_take_83 rfl rfl (Nat.le_of_ble_eq_true rfl) rfl ?_
          refine ev_goto 27 dX1_take_86 (by decide) ?_
          refine ev_sub [2, 0] rfl ?_
          exact h
        · replace h := h.2 c9
          refine ev_goto 89 dX1_take_80 (by decide) ?_
          refine ev_aload_n 1 dX1_take_89 rfl ?_
          refine ev_getR (r := 228) G1 lay_230 (k := 0) rfl (Nat.le_of_ble_eq_true rfl) dX1_take_90 w_357 ?_
          refine ev_iconst 0 dX1_take_93 (by decide) ?_
          refine ev_callV (M' := mX6_cut) [.int 0] vX6_cut G6 lay_228 dX1_take_94 w_1103 rfl rfl (Nat.le_of_ble_eq_true rfl) h ?_
          rintro r9 σ7 ⟨v7, rfl, h⟩
          refine ev_pop dX1_take_97 rfl ?_
          refine ev_aload_n 1 dX1_take_98 rfl ?_
          refine ev_get G1 lay_230 (k := 10) rfl (Nat.le_of_ble_eq_true rfl) dX1_take_99 w_367 ?_
          refine ev_if_eq 116 dX1_take_102 (by decide) (fun c9 => ?_) (fun c9 => ?_)
          · replace h := h.1 c9
            refine ev_aload_n 1 dX1_take_116 rfl ?_
            refine ev_get G1 lay_230 (k := 8) rfl (Nat.le_of_ble_eq_true rfl) dX1_take_117 w_365 ?_
            refine ev_aload_n 1 dX1_take_120 rfl ?_
            refine ev_get G1 lay_230 (k := 7) rfl (Nat.le_of_ble_eq_true rfl) dX1_take_121 w_364 ?_
            refine ev_isub dX1_take_124 ?_
            refine ev_istore_n (lv' := [(1, .int ((σ7.1 230 8) - (σ7.1 230 7))), (2, .int v3), (0, .ref 230)]) dX1_take_125 (Nat.le_of_ble_eq_true rfl) rfl ?_
            refine ev_aload_n 2 dX1_take_126 rfl ?_
            refine ev_aload_n 2 dX1_take_127 rfl ?_
            refine ev_get G1 lay_230 (k := 8) rfl (Nat.le_of_ble_eq_true rfl) dX1_take_128 w_365 ?_
            refine ev_put G1 lay_230 (k := 7) rfl (Nat.le_of_ble_eq_true rfl) rfl (by decide +kernel) dX1_take_131 w_364 ?_
            refine ev_iload_n 0 dX1_take_134 rfl ?_
            exact ev_iret rfl dX1_take_135 h
          · replace h := h.2 c9
            refine ev_bipush (-10) dX1_take_105 (by decide) ?_
            refine ev_aload_n 1 dX1_take_107 rfl ?_
            refine ev_getR (r := 228) G1 lay_230 (k := 0) rfl (Nat.le_of_ble_eq_true rfl) dX1_take_108 w_357 ?_
            refine ev_callV (M' := mX6_start) [] vX6_start G6 lay_228 dX1_take_111 w_1104 rfl rfl (Nat.le_of_ble_eq_true rfl) (EX6_start (Q := fun r9 s9 => σ7 = s9 ∧ r9 = some (.int (σ7.1 228 3))) ⟨rfl, rfl⟩) ?_
            rintro r9 s9 ⟨rfl, rfl⟩
            refine ev_isub dX1_take_114 ?_
            exact ev_iret rfl dX1_take_115 h
      · replace h := h.1 c9
        refine ev_goto 89 dX1_take_54 (by decide) ?_
        refine ev_aload_n 1 dX1_take_89 rfl ?_
        refine ev_getR (r := 228) G1 lay_230 (k := 0) rfl (Nat.le_of_ble_eq_true rfl) dX1_take_90 w_357 ?_
        refine ev_iconst 0 dX1_take_93 (by decide) ?_
        refine ev_callV (M' := mX6_cut) [.int 0] vX6_cut G6 lay_228 dX1_take_94 w_1103 rfl rfl (Nat.le_of_ble_eq_true rfl) h ?_
        rintro r9 σ8 ⟨v8, rfl, h⟩
        refine ev_pop dX1_take_97 rfl ?_
        refine ev_aload_n 1 dX1_take_98 rfl ?_
        refine ev_get G1 lay_230 (k := 10) rfl (Nat.le_of_ble_eq_true rfl) dX1_take_99 w_367 ?_
        refine ev_if_eq 116 dX1_take_102 (by decide) (fun c9 => ?_) (fun c9 => ?_)
        · replace h := h.1 c9
          refine ev_aload_n 1 dX1_take_116 rfl ?_
          refine ev_get G1 lay_230 (k := 8) rfl (Nat.le_of_ble_eq_true rfl) dX1_take_117 w_365 ?_
          refine ev_aload_n 1 dX1_take_120 rfl ?_
          refine ev_get G1 lay_230 (k := 7) rfl (Nat.le_of_ble_eq_true rfl) dX1_take_121 w_364 ?_
          refine ev_isub dX1_take_124 ?_
          refine ev_istore_n (lv' := [(1, .int ((σ8.1 230 8) - (σ8.1 230 7))), (2, .int v3), (0, .ref 230)]) dX1_take_125 (Nat.le_of_ble_eq_true rfl) rfl ?_
          refine ev_aload_n 2 dX1_take_126 rfl ?_
          refine ev_aload_n 2 dX1_take_127 rfl ?_
          refine ev_get G1 lay_230 (k := 8) rfl (Nat.le_of_ble_eq_true rfl) dX1_take_128 w_365 ?_
          refine ev_put G1 lay_230 (k := 7) rfl (Nat.le_of_ble_eq_true rfl) rfl (by decide +kernel) dX1_take_131 w_364 ?_
          refine ev_iload_n 0 dX1_take_134 rfl ?_
          exact ev_iret rfl dX1_take_135 h
        · replace h := h.2 c9
          refine ev_bipush (-10) dX1_take_105 (by decide) ?_
          refine ev_aload_n 1 dX1_take_107 rfl ?_
          refine ev_getR (r := 228) G1 lay_230 (k := 0) rfl (Nat.le_of_ble_eq_true rfl) dX1_take_108 w_357 ?_
          refine ev_callV (M' := mX6_start) [] vX6_start G6 lay_228 dX1_take_111 w_1104 rfl rfl (Nat.le_of_ble_eq_true rfl) (EX6_start (Q := fun r9 s9 => σ8 = s9 ∧ r9 = some (.int (σ8.1 228 3))) ⟨rfl, rfl⟩) ?_
          rintro r9 s9 ⟨rfl, rfl⟩
          refine ev_isub dX1_take_114 ?_
          exact ev_iret rfl dX1_take_115 h
theorem EX1_follow {N : Nat} {σ : Sg} {Q : Option Value → Sg → Prop} {x1 : Int32} {x2 : Int32} (h : (x1 = 0 → Q (some (.int 1)) σ) ∧ (¬ x1 = 0 → ((σ.1 230 9) = 0 → (x1 = 2 → EvM (N + 1) mX1_open [.ref 230, .int x2] σ (fun r9 σ1 => ∃ v1, r9 = some (.int v1) ∧ (Q (some (.int v1)) σ1))) ∧ (¬ x1 = 2 → Q (some (.int 2)) σ)) ∧ ((σ.1 230 9) = 1 → (x1 = 4 → EvM (N + 1) mX1_tellAbout [.ref 230, .int x2] σ (fun r9 σ2 => ∃ v2, r9 = some (.int v2) ∧ (Q (some (.int v2)) σ2))) ∧ (¬ x1 = 4 → Q (some (.int 2)) σ)) ∧ ((σ.1 230 9) = 2 → EvM (N + 1) mX1_goOnOrStop [.ref 230, .int x1] σ (fun r9 σ3 => ∃ v3, r9 = some (.int v3) ∧ (Q (some (.int v3)) σ3))) ∧ ((σ.1 230 9) = 3 → (x1 = 4 → EvM (N + 1) mX1_hang [.ref 230, .int x2] σ (fun r9 σ4 => ∃ v4, r9 = some (.int v4) ∧ (Q (some (.int v4)) σ4))) ∧ (¬ x1 = 4 → Q (some (.int 2)) σ)) ∧ (¬ (σ.1 230 9) = 0 → ¬ (σ.1 230 9) = 1 → ¬ (σ.1 230 9) = 2 → ¬ (σ.1 230 9) = 3 → EvM (N + 1) mX1_goOnOrStop [.ref 230, .int x1] σ (fun r9 σ5 => ∃ v5, r9 = some (.int v5) ∧ (Q (some (.int v5)) σ5))))) : EvM (N + 2) mX1_follow [.ref 230, .int x1, .int x2] σ Q := by
  refine ev_entry rfl (Nat.le_of_ble_eq_true rfl) (lv := [(0, .ref 230), (1, .int x1), (2, .int x2)]) rfl ?_
  refine ev_iload_n 1 dX1_follow_0 rfl ?_
  refine ev_if_ne 6 dX1_follow_1 (by decide) (fun c9 => ?_) (fun c9 => ?_)
  · replace h := h.2 c9
    refine ev_aload_n 0 dX1_follow_6 rfl ?_
    refine ev_get G1 lay_230 (k := 9) rfl (Nat.le_of_ble_eq_true rfl) dX1_follow_7 w_366 ?_
    by_cases c0 : (σ.1 230 9) = 0
    · replace h := h.1 c0
      refine ev_tableIn (off := (30)) 0 40 dX1_follow_10 c0 (by decide) (by decide) rfl (by decide) ?_
      refine ev_iload_n 1 dX1_follow_40 rfl ?_
      refine ev_iconst 2 dX1_follow_41 (by decide) ?_
      refine ev_icmp_ne 53 dX1_follow_42 (by decide) (fun c9 => ?_) (fun c9 => ?_)
      · replace h := h.2 c9
        refine ev_iconst 2 dX1_follow_53 (by decide) ?_
        exact ev_iret rfl dX1_follow_54 h
      · replace h := h.1 c9
        refine ev_aload_n 0 dX1_follow_45 rfl ?_
        refine ev_iload_n 2 dX1_follow_46 rfl ?_
        refine ev_callV (M' := mX1_open) [.int x2] vX1_open G1 lay_230 dX1_follow_47 w_1082 rfl rfl (Nat.le_of_ble_eq_true rfl) h ?_
        rintro r9 σ1 ⟨v1, rfl, h⟩
        refine ev_goto 54 dX1_follow_50 (by decide) ?_
        exact ev_iret rfl dX1_follow_54 h
    by_cases c1 : (σ.1 230 9) = 1
    · replace h := h.2.1 c1
      refine ev_tableIn (off := (45)) 1 55 dX1_follow_10 c1 (by decide) (by decide) rfl (by decide) ?_
      refine ev_iload_n 1 dX1_follow_55 rfl ?_
      refine ev_iconst 4 dX1_follow_56 (by decide) ?_
      refine ev_icmp_ne 68 dX1_follow_57 (by decide) (fun c9 => ?_) (fun c9 => ?_)
      · replace h := h.2 c9
        refine ev_iconst 2 dX1_follow_68 (by decide) ?_
        exact ev_iret rfl dX1_follow_69 h
      · replace h := h.1 c9
        refine ev_aload_n 0 dX1_follow_60 rfl ?_
        refine ev_iload_n 2 dX1_follow_61 rfl ?_
        refine ev_callV (M' := mX1_tellAbout) [.int x2] vX1_tellAbout G1 lay_230 dX1_follow_62 w_1086 rfl rfl (Nat.le_of_ble_eq_true rfl) h ?_
        rintro r9 σ2 ⟨v2, rfl, h⟩
        refine ev_goto 69 dX1_follow_65 (by decide) ?_
        exact ev_iret rfl dX1_follow_69 h
    by_cases c2 : (σ.1 230 9) = 2
    · replace h := h.2.2.1 c2
      refine ev_tableIn (off := (75)) 2 85 dX1_follow_10 c2 (by decide) (by decide) rfl (by decide) ?_
      refine ev_aload_n 0 dX1_follow_85 rfl ?_
      refine ev_iload_n 1 dX1_follow_86 rfl ?_
      refine ev_callV (M' := mX1_goOnOrStop) [.int x1] vX1_goOnOrStop G1 lay_230 dX1_follow_87 w_1099 rfl rfl (Nat.le_of_ble_eq_true rfl) h ?_
      rintro r9 σ3 ⟨v3, rfl, h⟩
      exact ev_iret rfl dX1_follow_90 h
    by_cases c3 : (σ.1 230 9) = 3
    · replace h := h.2.2.2.1 c3
      refine ev_tableIn (off := (60)) 3 70 dX1_follow_10 c3 (by decide) (by decide) rfl (by decide) ?_
      refine ev_iload_n 1 dX1_follow_70 rfl ?_
      refine ev_iconst 4 dX1_follow_71 (by decide) ?_
      refine ev_icmp_ne 83 dX1_follow_72 (by decide) (fun c9 => ?_) (fun c9 => ?_)
      · replace h := h.2 c9
        refine ev_iconst 2 dX1_follow_83 (by decide) ?_
        exact ev_iret rfl dX1_follow_84 h
      · replace h := h.1 c9
        refine ev_aload_n 0 dX1_follow_75 rfl ?_
        refine ev_iload_n 2 dX1_follow_76 rfl ?_
        refine ev_callV (M' := mX1_hang) [.int x2] vX1_hang G1 lay_230 dX1_follow_77 w_1090 rfl rfl (Nat.le_of_ble_eq_true rfl) h ?_
        rintro r9 σ4 ⟨v4, rfl, h⟩
        refine ev_goto 84 dX1_follow_80 (by decide) ?_
        exact ev_iret rfl dX1_follow_84 h
    replace h := h.2.2.2.2 c0 c1 c2 c3
    refine ev_tableOut 85 dX1_follow_10 ?_ (by decide) ?_
    · have hn : ∀ k : Int32, ¬ (σ.1 230 9) = k → ¬ ((σ.1 230 9)).toInt = k.toInt := fun k q e => q (Int32.toInt_inj.mp e)
      have e0 := hn _ c0
      have e1 := hn _ c1
      have e2 := hn _ c2
      have e3 := hn _ c3
      rw [show (0 : Int32).toInt = 0 from by decide] at e0; rw [show (1 : Int32).toInt = 1 from by decide] at e1; rw [show (2 : Int32).toInt = 2 from by decide] at e2; rw [show (3 : Int32).toInt = 3 from by decide] at e3
      omega
    · refine ev_aload_n 0 dX1_follow_85 rfl ?_
      refine ev_iload_n 1 dX1_follow_86 rfl ?_
      refine ev_callV (M' := mX1_goOnOrStop) [.int x1] vX1_goOnOrStop G1 lay_230 dX1_follow_87 w_1099 rfl rfl (Nat.le_of_ble_eq_true rfl) h ?_
      rintro r9 σ5 ⟨v5, rfl, h⟩
      exact ev_iret rfl dX1_follow_90 h
  · replace h := h.1 c9
    refine ev_iconst 1 dX1_follow_4 (by decide) ?_
    exact ev_iret rfl dX1_follow_5 h
theorem EX1_goOnOrStop {N : Nat} {σ : Sg} {Q : Option Value → Sg → Prop} {x1 : Int32} (h : ((σ.1 230 9) = 2 → (x1 = 3 → Q (some (.int 0)) (u1 σ 230 9 3)) ∧ (¬ x1 = 3 → (x1 = 6 → Q (some (.int 0)) (u1 (u1 σ 230 8 ((σ.1 230 8) + 1)) 230 9 0)) ∧ (¬ x1 = 6 → Q (some (.int 2)) σ))) ∧ (¬ (σ.1 230 9) = 2 → (x1 = 5 → Q (some (.int 0)) (u1 σ 230 9 3)) ∧ (¬ x1 = 5 → (x1 = 6 → Q (some (.int 0)) (u1 (u1 σ 230 8 ((σ.1 230 8) + 1)) 230 9 0)) ∧ (¬ x1 = 6 → Q (some (.int 2)) σ)))) : EvM N mX1_goOnOrStop [.ref 230, .int x1] σ Q := by
  refine ev_entry rfl (Nat.le_of_ble_eq_true rfl) (lv := [(0, .ref 230), (1, .int x1)]) rfl ?_
  refine ev_iload_n 1 dX1_goOnOrStop_0 rfl ?_
  refine ev_aload_n 0 dX1_goOnOrStop_1 rfl ?_
  refine ev_get G1 lay_230 (k := 9) rfl (Nat.le_of_ble_eq_true rfl) dX1_goOnOrStop_2 w_366 ?_
  refine ev_iconst 2 dX1_goOnOrStop_5 (by decide) ?_
  refine ev_icmp_ne 13 dX1_goOnOrStop_6 (by decide) (fun c9 => ?_) (fun c9 => ?_)
  · replace h := h.2 c9
    refine ev_iconst 5 dX1_goOnOrStop_13 (by decide) ?_
    refine ev_icmp_ne 24 dX1_goOnOrStop_14 (by decide) (fun c9 => ?_) (fun c9 => ?_)
    · replace h := h.2 c9
      refine ev_iload_n 1 dX1_goOnOrStop_24 rfl ?_
      refine ev_bipush 6 dX1_goOnOrStop_25 (by decide) ?_
      refine ev_icmp_eq 32 dX1_goOnOrStop_27 (by decide) (fun c9 => ?_) (fun c9 => ?_)
      · replace h := h.1 c9
        refine ev_aload_n 0 dX1_goOnOrStop_32 rfl ?_
        refine ev_dup dX1_goOnOrStop_33 rfl ?_
        refine ev_get G1 lay_230 (k := 8) rfl (Nat.le_of_ble_eq_true rfl) dX1_goOnOrStop_34 w_365 ?_
        refine ev_iconst 1 dX1_goOnOrStop_37 (by decide) ?_
        refine ev_iadd dX1_goOnOrStop_38 ?_
        refine ev_put G1 lay_230 (k := 8) rfl (Nat.le_of_ble_eq_true rfl) rfl (by decide +kernel) dX1_goOnOrStop_39 w_365 ?_
        refine ev_aload_n 0 dX1_goOnOrStop_42 rfl ?_
        refine ev_iconst 0 dX1_goOnOrStop_43 (by decide) ?_
        refine ev_put G1 lay_230 (k := 9) rfl (Nat.le_of_ble_eq_true rfl) rfl (by decide +kernel) dX1_goOnOrStop_44 w_366 ?_
        refine ev_iconst 0 dX1_goOnOrStop_47 (by decide) ?_
        exact ev_iret rfl dX1_goOnOrStop_48 h
      · replace h := h.2 c9
        refine ev_iconst 2 dX1_goOnOrStop_30 (by decide) ?_
        exact ev_iret rfl dX1_goOnOrStop_31 h
    · replace h := h.1 c9
      refine ev_aload_n 0 dX1_goOnOrStop_17 rfl ?_
      refine ev_iconst 3 dX1_goOnOrStop_18 (by decide) ?_
      refine ev_put G1 lay_230 (k := 9) rfl (Nat.le_of_ble_eq_true rfl) rfl (by decide +kernel) dX1_goOnOrStop_19 w_366 ?_
      refine ev_iconst 0 dX1_goOnOrStop_22 (by decide) ?_
      exact ev_iret rfl dX1_goOnOrStop_23 h
  · replace h := h.1 c9
    refine ev_iconst 3 dX1_goOnOrStop_9 (by decide) ?_
    refine ev_goto 14 dX1_goOnOrStop_10 (by decide) ?_
    refine ev_icmp_ne 24 dX1_goOnOrStop_14 (by decide) (fun c9 => ?_) (fun c9 => ?_)
    · replace h := h.2 c9
      refine ev_iload_n 1 dX1_goOnOrStop_24 rfl ?_
      refine ev_bipush 6 dX1_goOnOrStop_25 (by decide) ?_
      refine ev_icmp_eq 32 dX1_goOnOrStop_27 (by decide) (fun c9 => ?_) (fun c9 => ?_)
      · replace h := h.1 c9
        refine ev_aload_n 0 dX1_goOnOrStop_32 rfl ?_
        refine ev_dup dX1_goOnOrStop_33 rfl ?_
        refine ev_get G1 lay_230 (k := 8) rfl (Nat.le_of_ble_eq_true rfl) dX1_goOnOrStop_34 w_365 ?_
        refine ev_iconst 1 dX1_goOnOrStop_37 (by decide) ?_
        refine ev_iadd dX1_goOnOrStop_38 ?_
        refine ev_put G1 lay_230 (k := 8) rfl (Nat.le_of_ble_eq_true rfl) rfl (by decide +kernel) dX1_goOnOrStop_39 w_365 ?_
        refine ev_aload_n 0 dX1_goOnOrStop_42 rfl ?_
        refine ev_iconst 0 dX1_goOnOrStop_43 (by decide) ?_
        refine ev_put G1 lay_230 (k := 9) rfl (Nat.le_of_ble_eq_true rfl) rfl (by decide +kernel) dX1_goOnOrStop_44 w_366 ?_
        refine ev_iconst 0 dX1_goOnOrStop_47 (by decide) ?_
        exact ev_iret rfl dX1_goOnOrStop_48 h
      · replace h := h.2 c9
        refine ev_iconst 2 dX1_goOnOrStop_30 (by decide) ?_
        exact ev_iret rfl dX1_goOnOrStop_31 h
    · replace h := h.1 c9
      refine ev_aload_n 0 dX1_goOnOrStop_17 rfl ?_
      refine ev_iconst 3 dX1_goOnOrStop_18 (by decide) ?_
      refine ev_put G1 lay_230 (k := 9) rfl (Nat.le_of_ble_eq_true rfl) rfl (by decide +kernel) dX1_goOnOrStop_19 w_366 ?_
      refine ev_iconst 0 dX1_goOnOrStop_22 (by decide) ?_
      exact ev_iret rfl dX1_goOnOrStop_23 h
theorem EX1_open {N : Nat} {σ : Sg} {Q : Option Value → Sg → Prop} {x1 : Int32} (h : ((σ.1 230 8) < 20 → vp_in (σ.1 230 8) 20 ∧ (vp_in ((u1 σ 231 (σ.1 230 8).toNatClampNeg x1).1 230 8) 20 ∧ (vp_in ((u1 (u1 σ 231 (σ.1 230 8).toNatClampNeg x1) 233 ((u1 σ 231 (σ.1 230 8).toNatClampNeg x1).1 230 8).toNatClampNeg ((u1 σ 231 (σ.1 230 8).toNatClampNeg x1).1 230 11)).1 230 8) 20 ∧ (vp_in ((u1 (u1 (u1 σ 231 (σ.1 230 8).toNatClampNeg x1) 233 ((u1 σ 231 (σ.1 230 8).toNatClampNeg x1).1 230 8).toNatClampNeg ((u1 σ 231 (σ.1 230 8).toNatClampNeg x1).1 230 11)) 234 ((u1 (u1 σ 231 (σ.1 230 8).toNatClampNeg x1) 233 ((u1 σ 231 (σ.1 230 8).toNatClampNeg x1).1 230 8).toNatClampNeg ((u1 σ 231 (σ.1 230 8).toNatClampNeg x1).1 230 11)).1 230 8).toNatClampNeg (-4)).1 230 8) 20 ∧ (vp_in ((u1 (u1 (u1 (u1 σ 231 (σ.1 230 8).toNatClampNeg x1) 233 ((u1 σ 231 (σ.1 230 8).toNatClampNeg x1).1 230 8).toNatClampNeg ((u1 σ 231 (σ.1 230 8).toNatClampNeg x1).1 230 11)) 234 ((u1 (u1 σ 231 (σ.1 230 8).toNatClampNeg x1) 233 ((u1 σ 231 (σ.1 230 8).toNatClampNeg x1).1 230 8).toNatClampNeg ((u1 σ 231 (σ.1 230 8).toNatClampNeg x1).1 230 11)).1 230 8).toNatClampNeg (-4)) 235 ((u1 (u1 (u1 σ 231 (σ.1 230 8).toNatClampNeg x1) 233 ((u1 σ 231 (σ.1 230 8).toNatClampNeg x1).1 230 8).toNatClampNeg ((u1 σ 231 (σ.1 230 8).toNatClampNeg x1).1 230 11)) 234 ((u1 (u1 σ 231 (σ.1 230 8).toNatClampNeg x1) 233 ((u1 σ 231 (σ.1 230 8).toNatClampNeg x1).1 230 8).toNatClampNeg ((u1 σ 231 (σ.1 230 8).toNatClampNeg x1).1 230 11)).1 230 8).toNatClampNeg (-4)).1 230 8).toNatClampNeg 0).1 230 8) 20 ∧ (Q (some (.int 0)) (u1 (u1 (u1 (u1 (u1 (u1 σ 231 (σ.1 230 8).toNatClampNeg x1) 233 ((u1 σ 231 (σ.1 230 8).toNatClampNeg x1).1 230 8).toNatClampNeg ((u1 σ 231 (σ.1 230 8).toNatClampNeg x1).1 230 11)) 234 ((u1 (u1 σ 231 (σ.1 230 8).toNatClampNeg x1) 233 ((u1 σ 231 (σ.1 230 8).toNatClampNeg x1).1 230 8).toNatClampNeg ((u1 σ 231 (σ.1 230 8).toNatClampNeg x1).1 230 11)).1 230 8).toNatClampNeg (-4)) 235 ((u1 (u1 (u1 σ 231 (σ.1 230 8).toNatClampNeg x1) 233 ((u1 σ 231 (σ.1 230 8).toNatClampNeg x1).1 230 8).toNatClampNeg ((u1 σ 231 (σ.1 230 8).toNatClampNeg x1).1 230 11)) 234 ((u1 (u1 σ 231 (σ.1 230 8).toNatClampNeg x1) 233 ((u1 σ 231 (σ.1 230 8).toNatClampNeg x1).1 230 8).toNatClampNeg ((u1 σ 231 (σ.1 230 8).toNatClampNeg x1).1 230 11)).1 230 8).toNatClampNeg (-4)).1 230 8).toNatClampNeg 0) 236 ((u1 (u1 (u1 (u1 σ 231 (σ.1 230 8).toNatClampNeg x1) 233 ((u1 σ 231 (σ.1 230 8).toNatClampNeg x1).1 230 8).toNatClampNeg ((u1 σ 231 (σ.1 230 8).toNatClampNeg x1).1 230 11)) 234 ((u1 (u1 σ 231 (σ.1 230 8).toNatClampNeg x1) 233 ((u1 σ 231 (σ.1 230 8).toNatClampNeg x1).1 230 8).toNatClampNeg ((u1 σ 231 (σ.1 230 8).toNatClampNeg x1).1 230 11)).1 230 8).toNatClampNeg (-4)) 235 ((u1 (u1 (u1 σ 231 (σ.1 230 8).toNatClampNeg x1) 233 ((u1 σ 231 (σ.1 230 8).toNatClampNeg x1).1 230 8).toNatClampNeg ((u1 σ 231 (σ.1 230 8).toNatClampNeg x1).1 230 11)) 234 ((u1 (u1 σ 231 (σ.1 230 8).toNatClampNeg x1) 233 ((u1 σ 231 (σ.1 230 8).toNatClampNeg x1).1 230 8).toNatClampNeg ((u1 σ 231 (σ.1 230 8).toNatClampNeg x1).1 230 11)).1 230 8).toNatClampNeg (-4)).1 230 8).toNatClampNeg 0).1 230 8).toNatClampNeg 0) 230 9 1))))))) ∧ (¬ (σ.1 230 8) < 20 → Q (some (.int 5)) σ)) : EvM N mX1_open [.ref 230, .int x1] σ Q := by
  refine ev_entry rfl (Nat.le_of_ble_eq_true rfl) (lv := [(0, .ref 230), (1, .int x1)]) rfl ?_
  refine ev_aload_n 0 dX1_open_0 rfl ?_
  refine ev_get G1 lay_230 (k := 8) rfl (Nat.le_of_ble_eq_true rfl) dX1_open_1 w_365 ?_
  refine ev_bipush 20 dX1_open_4 (by decide) ?_
  refine ev_icmp_lt 11 dX1_open_6 (by decide) (fun c9 => ?_) (fun c9 => ?_)
  · replace h := h.1 c9
    refine ev_aload_n 0 dX1_open_11 rfl ?_
    refine ev_getR (r := 231) G1 lay_230 (k := 1) rfl (Nat.le_of_ble_eq_true rfl) dX1_open_12 w_358 ?_
    refine ev_aload_n 0 dX1_open_15 rfl ?_
    refine ev_get G1 lay_230 (k := 8) rfl (Nat.le_of_ble_eq_true rfl) dX1_open_16 w_365 ?_
    refine ev_iload_n 1 dX1_open_19 rfl ?_
    have hb20 := h.1
    replace h := h.2
    refine ev_iast lay_231 (Nat.le_of_ble_eq_true rfl) hb20 dX1_open_20 ?_
    refine ev_aload_n 0 dX1_open_21 rfl ?_
    refine ev_getR (r := 233) G1 lay_230 (k := 3) rfl (Nat.le_of_ble_eq_true rfl) dX1_open_22 w_360 ?_
    refine ev_aload_n 0 dX1_open_25 rfl ?_
    refine ev_get G1 lay_230 (k := 8) rfl (Nat.le_of_ble_eq_true rfl) dX1_open_26 w_365 ?_
    refine ev_aload_n 0 dX1_open_29 rfl ?_
    refine ev_get G1 lay_230 (k := 11) rfl (Nat.le_of_ble_eq_true rfl) dX1_open_30 w_368 ?_
    have hb33 := h.1
    replace h := h.2
    refine ev_iast lay_233 (Nat.le_of_ble_eq_true rfl) hb33 dX1_open_33 ?_
    refine ev_aload_n 0 dX1_open_34 rfl ?_
    refine ev_getR (r := 234) G1 lay_230 (k := 4) rfl (Nat.le_of_ble_eq_true rfl) dX1_open_35 w_361 ?_
    refine ev_aload_n 0 dX1_open_38 rfl ?_
    refine ev_get G1 lay_230 (k := 8) rfl (Nat.le_of_ble_eq_true rfl) dX1_open_39 w_365 ?_
    refine ev_bipush (-4) dX1_open_42 (by decide) ?_
    have hb44 := h.1
    replace h := h.2
    refine ev_iast lay_234 (Nat.le_of_ble_eq_true rfl) hb44 dX1_open_44 ?_
    refine ev_aload_n 0 dX1_open_45 rfl ?_
    refine ev_getR (r := 235) G1 lay_230 (k := 5) rfl (Nat.le_of_ble_eq_true rfl) dX1_open_46 w_362 ?_
    refine ev_aload_n 0 dX1_open_49 rfl ?_
    refine ev_get G1 lay_230 (k := 8) rfl (Nat.le_of_ble_eq_true rfl) dX1_open_50 w_365 ?_
    refine ev_iconst 0 dX1_open_53 (by decide) ?_
    have hb54 := h.1
    replace h := h.2
    refine ev_iast lay_235 (Nat.le_of_ble_eq_true rfl) hb54 dX1_open_54 ?_
    refine ev_aload_n 0 dX1_open_55 rfl ?_
    refine ev_getR (r := 236) G1 lay_230 (k := 6) rfl (Nat.le_of_ble_eq_true rfl) dX1_open_56 w_363 ?_
    refine ev_aload_n 0 dX1_open_59 rfl ?_
    refine ev_get G1 lay_230 (k := 8) rfl (Nat.le_of_ble_eq_true rfl) dX1_open_60 w_365 ?_
    refine ev_iconst 0 dX1_open_63 (by decide) ?_
    have hb64 := h.1
    replace h := h.2
    refine ev_iast lay_236 (Nat.le_of_ble_eq_true rfl) hb64 dX1_open_64 ?_
    refine ev_aload_n 0 dX1_open_65 rfl ?_
    refine ev_iconst 1 dX1_open_66 (by decide) ?_
    refine ev_put G1 lay_230 (k := 9) rfl (Nat.le_of_ble_eq_true rfl) rfl (by decide +kernel) dX1_open_67 w_366 ?_
    refine ev_iconst 0 dX1_open_70 (by decide) ?_
    exact ev_iret rfl dX1_open_71 h
  · replace h := h.2 c9
    refine ev_iconst 5 dX1_open_9 (by decide) ?_
    exact ev_iret rfl dX1_open_10 h
abbrev KX1_tellAbout_2 (N : Nat) (σ : Sg) (Q : Option Value → Sg → Prop) (x1 : Int32) (x2 : Int32) : Prop := Ev N mX1_tellAbout 2 [(0, .ref 230), (1, .int x1), (2, .int x2)] [] σ Q
theorem EX1_tellAbout {N : Nat} {σ : Sg} {Q : Option Value → Sg → Prop} {x1 : Int32} (h : KX1_tellAbout_2 N σ Q x1 0) : EvM N mX1_tellAbout [.ref 230, .int x1] σ Q := by
  refine ev_entry rfl (Nat.le_of_ble_eq_true rfl) (lv := [(0, .ref 230), (1, .int x1)]) rfl ?_
  refine ev_iconst 0 dX1_tellAbout_0 (by decide) ?_
  refine ev_istore_n (lv' := [(2, .int 0), (0, .ref 230), (1, .int x1)]) dX1_tellAbout_1 (Nat.le_of_ble_eq_true rfl) rfl ?_
  refine ev_sub [1, 2, 0] rfl ?_
  exact h
theorem BX1_tellAbout_2 {N : Nat} {σ : Sg} {Q : Option Value → Sg → Prop} {x1 : Int32} {x2 : Int32} (h : ((σ.1 230 8) ≤ x2 → vp_in (σ.1 230 8) 20 ∧ (Q (some (.int 0)) (u1 (u1 σ 232 (σ.1 230 8).toNatClampNeg x1) 230 9 2))) ∧ (¬ (σ.1 230 8) ≤ x2 → vp_in x2 20 ∧ (((σ.1 234 (x2).toNatClampNeg) = (-4) → vp_in x2 20 ∧ (vp_in (σ.1 230 8) 20 ∧ (((σ.1 231 (x2).toNatClampNeg) = (σ.1 231 (σ.1 230 8).toNatClampNeg) → vp_in x2 20 ∧ (((σ.1 232 (x2).toNatClampNeg) = x1 → Q (some (.int 4)) σ) ∧ (¬ (σ.1 232 (x2).toNatClampNeg) = x1 → KX1_tellAbout_2 N σ Q x1 (x2 + 1)))) ∧ (¬ (σ.1 231 (x2).toNatClampNeg) = (σ.1 231 (σ.1 230 8).toNatClampNeg) → KX1_tellAbout_2 N σ Q x1 (x2 + 1))))) ∧ (¬ (σ.1 234 (x2).toNatClampNeg) = (-4) → KX1_tellAbout_2 N σ Q x1 (x2 + 1))))) : KX1_tellAbout_2 N σ Q x1 x2 := by
  refine ev_iload_n 2 dX1_tellAbout_2 rfl ?_
  refine ev_aload_n 0 dX1_tellAbout_3 rfl ?_
  refine ev_get G1 lay_230 (k := 8) rfl (Nat.le_of_ble_eq_true rfl) dX1_tellAbout_4 w_365 ?_
  refine ev_icmp_ge 57 dX1_tellAbout_7 (by decide) (fun c9 => ?_) (fun c9 => ?_)
  · replace h := h.1 c9
    refine ev_aload_n 0 dX1_tellAbout_57 rfl ?_
    refine ev_getR (r := 232) G1 lay_230 (k := 2) rfl (Nat.le_of_ble_eq_true rfl) dX1_tellAbout_58 w_359 ?_
    refine ev_aload_n 0 dX1_tellAbout_61 rfl ?_
    refine ev_get G1 lay_230 (k := 8) rfl (Nat.le_of_ble_eq_true rfl) dX1_tellAbout_62 w_365 ?_
    refine ev_iload_n 1 dX1_tellAbout_65 rfl ?_
    have hb66 := h.1
    replace h := h.2
    refine ev_iast lay_232 (Nat.le_of_ble_eq_true rfl) hb66 dX1_tellAbout_66 ?_
    refine ev_aload_n 0 dX1_tellAbout_67 rfl ?_
    refine ev_iconst 2 dX1_tellAbout_68 (by decide) ?_
    refine ev_put G1 lay_230 (k := 9) rfl (Nat.le_of_ble_eq_true rfl) rfl (by decide +kernel) dX1_tellAbout_69 w_366 ?_
    refine ev_iconst 0 dX1_tellAbout_72 (by decide) ?_
    exact ev_iret rfl dX1_tellAbout_73 h
  · replace h := h.2 c9
    refine ev_aload_n 0 dX1_tellAbout_10 rfl ?_
    refine ev_getR (r := 234) G1 lay_230 (k := 4) rfl (Nat.le_of_ble_eq_true rfl) dX1_tellAbout_11 w_361 ?_
    refine ev_iload_n 2 dX1_tellAbout_14 rfl ?_
    have hb15 := h.1
    replace h := h.2
    refine ev_iald lay_234 (Nat.le_of_ble_eq_true rfl) hb15 dX1_tellAbout_15 ?_
    refine ev_bipush (-4) dX1_tellAbout_16 (by decide) ?_
    refine ev_icmp_ne 51 dX1_tellAbout_18 (by decide) (fun c9 => ?_) (fun c9 => ?_)
    · replace h := h.2 c9
      refine ev_iinc (lv' := [(2, .int (x2 + 1)), (0, .ref 230), (1, .int x1)]) (x2 + 1) 2 dX1_tellAbout_51 rfl rfl (Nat.le_of_ble_eq_true rfl) rfl ?_
      refine ev_goto 2 dX1_tellAbout_54 (by decide) ?_
      refine ev_sub [1, 2, 0] rfl ?_
      exact h
    · replace h := h.1 c9
      refine ev_aload_n 0 dX1_tellAbout_21 rfl ?_
      refine ev_getR (r := 231) G1 lay_230 (k := 1) rfl (Nat.le_of_ble_eq_true rfl) dX1_tellAbout_22 w_358 ?_
      refine ev_iload_n 2 dX1_tellAbout_25 rfl ?_
      have hb26 := h.1
      replace h := h.2
      refine ev_iald lay_231 (Nat.le_of_ble_eq_true rfl) hb26 dX1_tellAbout_26 ?_
      refine ev_aload_n 0 dX1_tellAbout_27 rfl ?_
      refine ev_getR (r := 231) G1 lay_230 (k := 1) rfl (Nat.le_of_ble_eq_true rfl) dX1_tellAbout_28 w_358 ?_
      refine ev_aload_n 0 dX1_tellAbout_31 rfl ?_
      refine ev_get G1 lay_230 (k := 8) rfl (Nat.le_of_ble_eq_true rfl) dX1_tellAbout_32 w_365 ?_
      have hb35 := h.1
      replace h := h.2
      refine ev_iald lay_231 (Nat.le_of_ble_eq_true rfl) hb35 dX1_tellAbout_35 ?_
      refine ev_icmp_ne 51 dX1_tellAbout_36 (by decide) (fun c9 => ?_) (fun c9 => ?_)
      · replace h := h.2 c9
        refine ev_iinc (lv' := [(2, .int (x2 + 1)), (0, .ref 230), (1, .int x1)]) (x2 + 1) 2 dX1_tellAbout_51 rfl rfl (Nat.le_of_ble_eq_true rfl) rfl ?_
        refine ev_goto 2 dX1_tellAbout_54 (by decide) ?_
        refine ev_sub [1, 2, 0] rfl ?_
        exact h
      · replace h := h.1 c9
        refine ev_aload_n 0 dX1_tellAbout_39 rfl ?_
        refine ev_getR (r := 232) G1 lay_230 (k := 2) rfl (Nat.le_of_ble_eq_true rfl) dX1_tellAbout_40 w_359 ?_
        refine ev_iload_n 2 dX1_tellAbout_43 rfl ?_
        have hb44 := h.1
        replace h := h.2
        refine ev_iald lay_232 (Nat.le_of_ble_eq_true rfl) hb44 dX1_tellAbout_44 ?_
        refine ev_iload_n 1 dX1_tellAbout_45 rfl ?_
        refine ev_icmp_ne 51 dX1_tellAbout_46 (by decide) (fun c9 => ?_) (fun c9 => ?_)
        · replace h := h.2 c9
          refine ev_iinc (lv' := [(2, .int (x2 + 1)), (0, .ref 230), (1, .int x1)]) (x2 + 1) 2 dX1_tellAbout_51 rfl rfl (Nat.le_of_ble_eq_true rfl) rfl ?_
          refine ev_goto 2 dX1_tellAbout_54 (by decide) ?_
          refine ev_sub [1, 2, 0] rfl ?_
          exact h
        · replace h := h.1 c9
          refine ev_iconst 4 dX1_tellAbout_49 (by decide) ?_
          exact ev_iret rfl dX1_tellAbout_50 h
theorem EX1_hang {N : Nat} {σ : Sg} {Q : Option Value → Sg → Prop} {x1 : Int32} (h : (x1 < 0 → Q (some (.int 3)) σ) ∧ (¬ x1 < 0 → ((σ.1 230 8) ≤ x1 → Q (some (.int 3)) σ) ∧ (¬ (σ.1 230 8) ≤ x1 → vp_in x1 20 ∧ (((σ.1 234 (x1).toNatClampNeg) = (-4) → EvM N mX1_hangs [.ref 230, .int (σ.1 230 8), .int x1] σ (fun r9 σ1 => ∃ v1, r9 = some (.int v1) ∧ ((v1 = 0 → vp_in (σ1.1 230 8) 20 ∧ (vp_in (σ1.1 230 8) 20 ∧ (vp_in ((u1 σ1 235 (σ1.1 230 8).toNatClampNeg ((σ1.1 235 (σ1.1 230 8).toNatClampNeg) ||| (1 <<< (x1 &&& 31)))).1 230 8) 20 ∧ (vp_in x1 20 ∧ (vp_in ((u1 σ1 235 (σ1.1 230 8).toNatClampNeg ((σ1.1 235 (σ1.1 230 8).toNatClampNeg) ||| (1 <<< (x1 &&& 31)))).1 230 8) 20 ∧ (Q (some (.int 0)) (u1 (u1 (u1 σ1 235 (σ1.1 230 8).toNatClampNeg ((σ1.1 235 (σ1.1 230 8).toNatClampNeg) ||| (1 <<< (x1 &&& 31)))) 236 ((u1 σ1 235 (σ1.1 230 8).toNatClampNeg ((σ1.1 235 (σ1.1 230 8).toNatClampNeg) ||| (1 <<< (x1 &&& 31)))).1 230 8).toNatClampNeg (if ((u1 σ1 235 (σ1.1 230 8).toNatClampNeg ((σ1.1 235 (σ1.1 230 8).toNatClampNeg) ||| (1 <<< (x1 &&& 31)))).1 236 ((u1 σ1 235 (σ1.1 230 8).toNatClampNeg ((σ1.1 235 (σ1.1 230 8).toNatClampNeg) ||| (1 <<< (x1 &&& 31)))).1 230 8).toNatClampNeg) < (((u1 σ1 235 (σ1.1 230 8).toNatClampNeg ((σ1.1 235 (σ1.1 230 8).toNatClampNeg) ||| (1 <<< (x1 &&& 31)))).1 236 (x1).toNatClampNeg) + 1) then (((u1 σ1 235 (σ1.1 230 8).toNatClampNeg ((σ1.1 235 (σ1.1 230 8).toNatClampNeg) ||| (1 <<< (x1 &&& 31)))).1 236 (x1).toNatClampNeg) + 1) else ((u1 σ1 235 (σ1.1 230 8).toNatClampNeg ((σ1.1 235 (σ1.1 230 8).toNatClampNeg) ||| (1 <<< (x1 &&& 31)))).1 236 ((u1 σ1 235 (σ1.1 230 8).toNatClampNeg ((σ1.1 235 (σ1.1 230 8).toNatClampNeg) ||| (1 <<< (x1 &&& 31)))).1 230 8).toNatClampNeg))) 230 9 4))))))) ∧ (¬ v1 = 0 → Q (some (.int 3)) σ1)))) ∧ (¬ (σ.1 234 (x1).toNatClampNeg) = (-4) → Q (some (.int 3)) σ))))) : EvM (N + 1) mX1_hang [.ref 230, .int x1] σ Q := by
  refine ev_entry rfl (Nat.le_of_ble_eq_true rfl) (lv := [(0, .ref 230), (1, .int x1)]) rfl ?_
  refine ev_iload_n 1 dX1_hang_0 rfl ?_
  refine ev_if_lt 35 dX1_hang_1 (by decide) (fun c9 => ?_) (fun c9 => ?_)
  · replace h := h.1 c9
    refine ev_iconst 3 dX1_hang_35 (by decide) ?_
    exact ev_iret rfl dX1_hang_36 h
  · replace h := h.2 c9
    refine ev_iload_n 1 dX1_hang_4 rfl ?_
    refine ev_aload_n 0 dX1_hang_5 rfl ?_
    refine ev_get G1 lay_230 (k := 8) rfl (Nat.le_of_ble_eq_true rfl) dX1_hang_6 w_365 ?_
    refine ev_icmp_ge 35 dX1_hang_9 (by decide) (fun c9 => ?_) (fun c9 => ?_)
    · replace h := h.1 c9
      refine ev_iconst 3 dX1_hang_35 (by decide) ?_
      exact ev_iret rfl dX1_hang_36 h
    · replace h := h.2 c9
      refine ev_aload_n 0 dX1_hang_12 rfl ?_
      refine ev_getR (r := 234) G1 lay_230 (k := 4) rfl (Nat.le_of_ble_eq_true rfl) dX1_hang_13 w_361 ?_
      refine ev_iload_n 1 dX1_hang_16 rfl ?_
      have hb17 := h.1
      replace h := h.2
      refine ev_iald lay_234 (Nat.le_of_ble_eq_true rfl) hb17 dX1_hang_17 ?_
      refine ev_bipush (-4) dX1_hang_18 (by decide) ?_
      refine ev_icmp_ne 35 dX1_hang_20 (by decide) (fun c9 => ?_) (fun c9 => ?_)
      · replace h := h.2 c9
        refine ev_iconst 3 dX1_hang_35 (by decide) ?_
        exact ev_iret rfl dX1_hang_36 h
      · replace h := h.1 c9
        refine ev_aload_n 0 dX1_hang_23 rfl ?_
        refine ev_aload_n 0 dX1_hang_24 rfl ?_
        refine ev_get G1 lay_230 (k := 8) rfl (Nat.le_of_ble_eq_true rfl) dX1_hang_25 w_365 ?_
        refine ev_iload_n 1 dX1_hang_28 rfl ?_
        refine ev_callV (M' := mX1_hangs) [.int (σ.1 230 8), .int x1] vX1_hangs G1 lay_230 dX1_hang_29 w_1094 rfl rfl (Nat.le_of_ble_eq_true rfl) h ?_
        rintro r9 σ1 ⟨v1, rfl, h⟩
        refine ev_if_eq 37 dX1_hang_32 (by decide) (fun c9 => ?_) (fun c9 => ?_)
        · replace h := h.1 c9
          refine ev_aload_n 0 dX1_hang_37 rfl ?_
          refine ev_getR (r := 235) G1 lay_230 (k := 5) rfl (Nat.le_of_ble_eq_true rfl) dX1_hang_38 w_362 ?_
          refine ev_aload_n 0 dX1_hang_41 rfl ?_
          refine ev_get G1 lay_230 (k := 8) rfl (Nat.le_of_ble_eq_true rfl) dX1_hang_42 w_365 ?_
          refine ev_dup2 dX1_hang_45 rfl rfl ?_
          have hb46 := h.1
          replace h := h.2
          refine ev_iald lay_235 (Nat.le_of_ble_eq_true rfl) hb46 dX1_hang_46 ?_
          refine ev_iconst 1 dX1_hang_47 (by decide) ?_
          refine ev_iload_n 1 dX1_hang_48 rfl ?_
          refine ev_ishl dX1_hang_49 ?_
          refine ev_ior dX1_hang_50 ?_
          have hb51 := h.1
          replace h := h.2
          refine ev_iast lay_235 (Nat.le_of_ble_eq_true rfl) hb51 dX1_hang_51 ?_
          refine ev_aload_n 0 dX1_hang_52 rfl ?_
          refine ev_getR (r := 236) G1 lay_230 (k := 6) rfl (Nat.le_of_ble_eq_true rfl) dX1_hang_53 w_363 ?_
          refine ev_aload_n 0 dX1_hang_56 rfl ?_
          refine ev_get G1 lay_230 (k := 8) rfl (Nat.le_of_ble_eq_true rfl) dX1_hang_57 w_365 ?_
          refine ev_aload_n 0 dX1_hang_60 rfl ?_
          refine ev_getR (r := 236) G1 lay_230 (k := 6) rfl (Nat.le_of_ble_eq_true rfl) dX1_hang_61 w_363 ?_
          refine ev_aload_n 0 dX1_hang_64 rfl ?_
          refine ev_get G1 lay_230 (k := 8) rfl (Nat.le_of_ble_eq_true rfl) dX1_hang_65 w_365 ?_
          have hb68 := h.1
          replace h := h.2
          refine ev_iald lay_236 (Nat.le_of_ble_eq_true rfl) hb68 dX1_hang_68 ?_
          refine ev_aload_n 0 dX1_hang_69 rfl ?_
          refine ev_getR (r := 236) G1 lay_230 (k := 6) rfl (Nat.le_of_ble_eq_true rfl) dX1_hang_70 w_363 ?_
          refine ev_iload_n 1 dX1_hang_73 rfl ?_
          have hb74 := h.1
          replace h := h.2
          refine ev_iald lay_236 (Nat.le_of_ble_eq_true rfl) hb74 dX1_hang_74 ?_
          refine ev_iconst 1 dX1_hang_75 (by decide) ?_
          refine ev_iadd dX1_hang_76 ?_
          refine ev_mmax dX1_hang_77 w_1098 ?_ (Nat.le_of_ble_eq_true rfl)
          have hb80 := h.1
          replace h := h.2
          refine ev_iast lay_236 (Nat.le_of_ble_eq_true rfl) hb80 dX1_hang_80 ?_
          refine ev_aload_n 0 dX1_hang_81 rfl ?_
          refine ev_iconst 4 dX1_hang_82 (by decide) ?_
          refine ev_put G1 lay_230 (k := 9) rfl (Nat.le_of_ble_eq_true rfl) rfl (by decide +kernel) dX1_hang_83 w_366 ?_
          refine ev_iconst 0 dX1_hang_86 (by decide) ?_
          exact ev_iret rfl dX1_hang_87 h
        · replace h := h.2 c9
          refine ev_iconst 3 dX1_hang_35 (by decide) ?_
          exact ev_iret rfl dX1_hang_36 h
theorem EX1_hangs {N : Nat} {σ : Sg} {Q : Option Value → Sg → Prop} {x1 : Int32} {x2 : Int32} (h : vp_in x1 20 ∧ (((((σ.1 235 (x1).toNatClampNeg) >>> (x2 &&& 31)) &&& 1) = 1 → Q (some (.int 1)) σ) ∧ (¬ (((σ.1 235 (x1).toNatClampNeg) >>> (x2 &&& 31)) &&& 1) = 1 → Q (some (.int 0)) σ))) : EvM N mX1_hangs [.ref 230, .int x1, .int x2] σ Q := by
  refine ev_entry rfl (Nat.le_of_ble_eq_true rfl) (lv := [(0, .ref 230), (1, .int x1), (2, .int x2)]) rfl ?_
  refine ev_aload_n 0 dX1_hangs_0 rfl ?_
  refine ev_getR (r := 235) G1 lay_230 (k := 5) rfl (Nat.le_of_ble_eq_true rfl) dX1_hangs_1 w_362 ?_
  refine ev_iload_n 1 dX1_hangs_4 rfl ?_
  have hb5 := h.1
  replace h := h.2
  refine ev_iald lay_235 (Nat.le_of_ble_eq_true rfl) hb5 dX1_hangs_5 ?_
  refine ev_iload_n 2 dX1_hangs_6 rfl ?_
  refine ev_ishr dX1_hangs_7 ?_
  refine ev_iconst 1 dX1_hangs_8 (by decide) ?_
  refine ev_iand dX1_hangs_9 ?_
  refine ev_iconst 1 dX1_hangs_10 (by decide) ?_
  refine ev_icmp_ne 18 dX1_hangs_11 (by decide) (fun c9 => ?_) (fun c9 => ?_)
  · replace h := h.2 c9
    refine ev_iconst 0 dX1_hangs_18 (by decide) ?_
    exact ev_zret (ty := .boolean) rfl (by rfl) dX1_hangs_19 h
  · replace h := h.1 c9
    refine ev_iconst 1 dX1_hangs_14 (by decide) ?_
    refine ev_goto 19 dX1_hangs_15 (by decide) ?_
    exact ev_zret (ty := .boolean) rfl (by rfl) dX1_hangs_19 h
theorem EX1_tell {N : Nat} {σ : Sg} {Q : Option Value → Sg → Prop} {x1 : Int32} {x2 : Int32} (h : ((0 ≤ (x1).toInt ∧ (x1).toInt < (σ.1 230 7).toInt) → (x2 = 0 → vp_in x1 20 ∧ (Q (some (.int (σ.1 231 (x1).toNatClampNeg))) σ)) ∧ (x2 = 1 → vp_in x1 20 ∧ (Q (some (.int (σ.1 232 (x1).toNatClampNeg))) σ)) ∧ (x2 = 2 → vp_in x1 20 ∧ (Q (some (.int (σ.1 233 (x1).toNatClampNeg))) σ)) ∧ (x2 = 3 → vp_in x1 20 ∧ (Q (some (.int (σ.1 234 (x1).toNatClampNeg))) σ)) ∧ (x2 = 4 → vp_in x1 20 ∧ (EvM N mJ6_bitCount_0f7a4 [.int (σ.1 235 (x1).toNatClampNeg)] σ (fun r9 σ1 => ∃ v1, r9 = some (.int v1) ∧ (Q (some (.int v1)) σ1)))) ∧ (x2 = 5 → EvM N mX1_hangingOn [.ref 230, .int x1] σ (fun r9 σ2 => ∃ v2, r9 = some (.int v2) ∧ (EvM N mJ6_bitCount_0f7a4 [.int (v2 &&& ((1 <<< (x1 &&& 31)) ^^^ (-1)))] σ2 (fun r9 σ3 => ∃ v3, r9 = some (.int v3) ∧ (Q (some (.int v3)) σ3))))) ∧ (x2 = 6 → vp_in x1 20 ∧ (Q (some (.int (σ.1 236 (x1).toNatClampNeg))) σ)) ∧ (¬ x2 = 0 → ¬ x2 = 1 → ¬ x2 = 2 → ¬ x2 = 3 → ¬ x2 = 4 → ¬ x2 = 5 → ¬ x2 = 6 → Q (some (.int (-1))) σ)) ∧ (¬ (0 ≤ (x1).toInt ∧ (x1).toInt < (σ.1 230 7).toInt) → Q (some (.int (-1))) σ)) : EvM (N + 1) mX1_tell [.ref 230, .int x1, .int x2] σ Q := by
  refine ev_entry rfl (Nat.le_of_ble_eq_true rfl) (lv := [(0, .ref 230), (1, .int x1), (2, .int x2)]) rfl ?_
  refine ev_aload_n 0 dX1_tell_0 rfl ?_
  refine ev_iload_n 1 dX1_tell_1 rfl ?_
  refine ev_callV (M' := mX1_isClaim) [.int x1] vX1_isClaim G1 lay_230 dX1_tell_2 w_1124 rfl rfl (Nat.le_of_ble_eq_true rfl) (C1_isClaim (Q := fun r9 s9 => σ = s9 ∧ ((r9 = some (.int 1) ∧ (0 ≤ (x1).toInt ∧ (x1).toInt < (σ.1 230 7).toInt)) ∨ (r9 = some (.int 0) ∧ ¬ (0 ≤ (x1).toInt ∧ (x1).toInt < (σ.1 230 7).toInt)))) ⟨fun c9 => ⟨rfl, Or.inl ⟨rfl, c9⟩⟩, fun c9 => ⟨rfl, Or.inr ⟨rfl, c9⟩⟩⟩) ?_
  rintro r9 s9 ⟨rfl, ⟨rfl, c9⟩ | ⟨rfl, c9⟩⟩
  · replace h := h.1 c9
    refine ev_if_ne 10 dX1_tell_5 (by decide) (fun c9 => ?_) (fun c9 => ?_)
    · refine ev_iload_n 2 dX1_tell_10 rfl ?_
      by_cases c0 : x2 = 0
      · replace h := h.1 c0
        refine ev_tableIn (off := (41)) 0 52 dX1_tell_11 c0 (by decide) (by decide) rfl (by decide) ?_
        refine ev_aload_n 0 dX1_tell_52 rfl ?_
        refine ev_getR (r := 231) G1 lay_230 (k := 1) rfl (Nat.le_of_ble_eq_true rfl) dX1_tell_53 w_358 ?_
        refine ev_iload_n 1 dX1_tell_56 rfl ?_
        have hb57 := h.1
        replace h := h.2
        refine ev_iald lay_231 (Nat.le_of_ble_eq_true rfl) hb57 dX1_tell_57 ?_
        exact ev_iret rfl dX1_tell_58 h
      by_cases c1 : x2 = 1
      · replace h := h.2.1 c1
        refine ev_tableIn (off := (48)) 1 59 dX1_tell_11 c1 (by decide) (by decide) rfl (by decide) ?_
        refine ev_aload_n 0 dX1_tell_59 rfl ?_
        refine ev_getR (r := 232) G1 lay_230 (k := 2) rfl (Nat.le_of_ble_eq_true rfl) dX1_tell_60 w_359 ?_
        refine ev_iload_n 1 dX1_tell_63 rfl ?_
        have hb64 := h.1
        replace h := h.2
        refine ev_iald lay_232 (Nat.le_of_ble_eq_true rfl) hb64 dX1_tell_64 ?_
        exact ev_iret rfl dX1_tell_65 h
      by_cases c2 : x2 = 2
      · replace h := h.2.2.1 c2
        refine ev_tableIn (off := (55)) 2 66 dX1_tell_11 c2 (by decide) (by decide) rfl (by decide) ?_
        refine ev_aload_n 0 dX1_tell_66 rfl ?_
        refine ev_getR (r := 233) G1 lay_230 (k := 3) rfl (Nat.le_of_ble_eq_true rfl) dX1_tell_67 w_360 ?_
        refine ev_iload_n 1 dX1_tell_70 rfl ?_
        have hb71 := h.1
        replace h := h.2
        refine ev_iald lay_233 (Nat.le_of_ble_eq_true rfl) hb71 dX1_tell_71 ?_
        exact ev_iret rfl dX1_tell_72 h
      by_cases c3 : x2 = 3
      · replace h := h.2.2.2.1 c3
        refine ev_tableIn (off := (62)) 3 73 dX1_tell_11 c3 (by decide) (by decide) rfl (by decide) ?_
        refine ev_aload_n 0 dX1_tell_73 rfl ?_
        refine ev_getR (r := 234) G1 lay_230 (k := 4) rfl (Nat.le_of_ble_eq_true rfl) dX1_tell_74 w_361 ?_
        refine ev_iload_n 1 dX1_tell_77 rfl ?_
        have hb78 := h.1
        replace h := h.2
        refine ev_iald lay_234 (Nat.le_of_ble_eq_true rfl) hb78 dX1_tell_78 ?_
        exact ev_iret rfl dX1_tell_79 h
      by_cases c4 : x2 = 4
      · replace h := h.2.2.2.2.1 c4
        refine ev_tableIn (off := (69)) 4 80 dX1_tell_11 c4 (by decide) (by decide) rfl (by decide) ?_
        refine ev_aload_n 0 dX1_tell_80 rfl ?_
        refine ev_getR (r := 235) G1 lay_230 (k := 5) rfl (Nat.le_of_ble_eq_true rfl) dX1_tell_81 w_362 ?_
        refine ev_iload_n 1 dX1_tell_84 rfl ?_
        have hb85 := h.1
        replace h := h.2
        refine ev_iald lay_235 (Nat.le_of_ble_eq_true rfl) hb85 dX1_tell_85 ?_
        refine ev_callS (M' := mJ6_bitCount_0f7a4) [.int (σ.1 235 (x1).toNatClampNeg)] vJ6_bitCount_0f7a4 dX1_tell_86 w_1128 rfl rfl (Nat.le_of_ble_eq_true rfl) h ?_
        rintro r9 σ1 ⟨v1, rfl, h⟩
        exact ev_iret rfl dX1_tell_89 h
      by_cases c5 : x2 = 5
      · replace h := h.2.2.2.2.2.1 c5
        refine ev_tableIn (off := (79)) 5 90 dX1_tell_11 c5 (by decide) (by decide) rfl (by decide) ?_
        refine ev_aload_n 0 dX1_tell_90 rfl ?_
        refine ev_iload_n 1 dX1_tell_91 rfl ?_
        refine ev_callV (M' := mX1_hangingOn) [.int x1] vX1_hangingOn G1 lay_230 dX1_tell_92 w_1129 rfl rfl (Nat.le_of_ble_eq_true rfl) h ?_
        rintro r9 σ2 ⟨v2, rfl, h⟩
        refine ev_iconst 1 dX1_tell_95 (by decide) ?_
        refine ev_iload_n 1 dX1_tell_96 rfl ?_
        refine ev_ishl dX1_tell_97 ?_
        refine ev_iconst (-1) dX1_tell_98 (by decide) ?_
        refine ev_ixor dX1_tell_99 ?_
        refine ev_iand dX1_tell_100 ?_
        refine ev_callS (M' := mJ6_bitCount_0f7a4) [.int (v2 &&& ((1 <<< (x1 &&& 31)) ^^^ (-1)))] vJ6_bitCount_0f7a4 dX1_tell_101 w_1128 rfl rfl (Nat.le_of_ble_eq_true rfl) h ?_
        rintro r9 σ3 ⟨v3, rfl, h⟩
        exact ev_iret rfl dX1_tell_104 h
      by_cases c6 : x2 = 6
      · replace h := h.2.2.2.2.2.2.1 c6
        refine ev_tableIn (off := (94)) 6 105 dX1_tell_11 c6 (by decide) (by decide) rfl (by decide) ?_
        refine ev_aload_n 0 dX1_tell_105 rfl ?_
        refine ev_getR (r := 236) G1 lay_230 (k := 6) rfl (Nat.le_of_ble_eq_true rfl) dX1_tell_106 w_363 ?_
        refine ev_iload_n 1 dX1_tell_109 rfl ?_
        have hb110 := h.1
        replace h := h.2
        refine ev_iald lay_236 (Nat.le_of_ble_eq_true rfl) hb110 dX1_tell_110 ?_
        exact ev_iret rfl dX1_tell_111 h
      replace h := h.2.2.2.2.2.2.2 c0 c1 c2 c3 c4 c5 c6
      refine ev_tableOut 112 dX1_tell_11 ?_ (by decide) ?_
      · have hn : ∀ k : Int32, ¬ x2 = k → ¬ (x2).toInt = k.toInt := fun k q e => q (Int32.toInt_inj.mp e)
        have e0 := hn _ c0
        have e1 := hn _ c1
        have e2 := hn _ c2
        have e3 := hn _ c3
        have e4 := hn _ c4
        have e5 := hn _ c5
        have e6 := hn _ c6
        rw [show (0 : Int32).toInt = 0 from by decide] at e0; rw [show (1 : Int32).toInt = 1 from by decide] at e1; rw [show (2 : Int32).toInt = 2 from by decide] at e2; rw [show (3 : Int32).toInt = 3 from by decide] at e3; rw [show (4 : Int32).toInt = 4 from by decide] at e4; rw [show (5 : Int32).toInt = 5 from by decide] at e5; rw [show (6 : Int32).toInt = 6 from by decide] at e6
        omega
      · refine ev_iconst (-1) dX1_tell_112 (by decide) ?_
        exact ev_iret rfl dX1_tell_113 h
    · exact absurd c9 (by decide)
  · replace h := h.2 c9
    refine ev_if_ne 10 dX1_tell_5 (by decide) (fun c9 => ?_) (fun c9 => ?_)
    · exact absurd c9 (by decide)
    · refine ev_iconst (-1) dX1_tell_8 (by decide) ?_
      exact ev_iret rfl dX1_tell_9 h
abbrev KX1_takeBack_32 (N : Nat) (σ : Sg) (Q : Option Value → Sg → Prop) (x2 : Int32) (x3 : Int32) : Prop := Ev (N + 1) mX1_takeBack 32 [(0, .ref 230), (2, .int x2), (3, .int x3)] [] σ Q
theorem EX1_takeBack {N : Nat} {σ : Sg} {Q : Option Value → Sg → Prop} {x1 : Int32} (h : ((0 ≤ (x1).toInt ∧ (x1).toInt < (σ.1 230 7).toInt) → vp_in x1 20 ∧ (((σ.1 234 (x1).toNatClampNeg) = (-4) → EvM N mX1_hangingOn [.ref 230, .int x1] σ (fun r9 σ1 => ∃ v1, r9 = some (.int v1) ∧ (KX1_takeBack_32 N σ1 Q v1 x1))) ∧ (¬ (σ.1 234 (x1).toNatClampNeg) = (-4) → Q (some (.int (-2))) σ))) ∧ (¬ (0 ≤ (x1).toInt ∧ (x1).toInt < (σ.1 230 7).toInt) → Q (some (.int (-1))) σ)) : EvM (N + 1) mX1_takeBack [.ref 230, .int x1] σ Q := by
  refine ev_entry rfl (Nat.le_of_ble_eq_true rfl) (lv := [(0, .ref 230), (1, .int x1)]) rfl ?_
  refine ev_aload_n 0 dX1_takeBack_0 rfl ?_
  refine ev_iload_n 1 dX1_takeBack_1 rfl ?_
  refine ev_callV (M' := mX1_isClaim) [.int x1] vX1_isClaim G1 lay_230 dX1_takeBack_2 w_1124 rfl rfl (Nat.le_of_ble_eq_true rfl) (C1_isClaim (Q := fun r9 s9 => σ = s9 ∧ ((r9 = some (.int 1) ∧ (0 ≤ (x1).toInt ∧ (x1).toInt < (σ.1 230 7).toInt)) ∨ (r9 = some (.int 0) ∧ ¬ (0 ≤ (x1).toInt ∧ (x1).toInt < (σ.1 230 7).toInt)))) ⟨fun c9 => ⟨rfl, Or.inl ⟨rfl, c9⟩⟩, fun c9 => ⟨rfl, Or.inr ⟨rfl, c9⟩⟩⟩) ?_
  rintro r9 s9 ⟨rfl, ⟨rfl, c9⟩ | ⟨rfl, c9⟩⟩
  · replace h := h.1 c9
    refine ev_if_ne 10 dX1_takeBack_5 (by decide) (fun c9 => ?_) (fun c9 => ?_)
    · refine ev_aload_n 0 dX1_takeBack_10 rfl ?_
      refine ev_getR (r := 234) G1 lay_230 (k := 4) rfl (Nat.le_of_ble_eq_true rfl) dX1_takeBack_11 w_361 ?_
      refine ev_iload_n 1 dX1_takeBack_14 rfl ?_
      have hb15 := h.1
      replace h := h.2
      refine ev_iald lay_234 (Nat.le_of_ble_eq_true rfl) hb15 dX1_takeBack_15 ?_
      refine ev_bipush (-4) dX1_takeBack_16 (by decide) ?_
      refine ev_icmp_eq 24 dX1_takeBack_18 (by decide) (fun c9 => ?_) (fun c9 => ?_)
      · replace h := h.1 c9
        refine ev_aload_n 0 dX1_takeBack_24 rfl ?_
        refine ev_iload_n 1 dX1_takeBack_25 rfl ?_
        refine ev_callV (M' := mX1_hangingOn) [.int x1] vX1_hangingOn G1 lay_230 dX1_takeBack_26 w_1129 rfl rfl (Nat.le_of_ble_eq_true rfl) h ?_
        rintro r9 σ1 ⟨v1, rfl, h⟩
        refine ev_istore_n (lv' := [(2, .int v1), (0, .ref 230), (1, .int x1)]) dX1_takeBack_29 (Nat.le_of_ble_eq_true rfl) rfl ?_
        refine ev_iload_n 2 dX1_takeBack_30 rfl ?_
        refine ev_istore_n (lv' := [(3, .int x1), (2, .int v1), (0, .ref 230), (1, .int x1)]) dX1_takeBack_31 (Nat.le_of_ble_eq_true rfl) rfl ?_
        refine ev_sub [2, 1, 0] rfl ?_
        exact h
      · replace h := h.2 c9
        refine ev_bipush (-2) dX1_takeBack_21 (by decide) ?_
        exact ev_iret rfl dX1_takeBack_23 h
    · exact absurd c9 (by decide)
  · replace h := h.2 c9
    refine ev_if_ne 10 dX1_takeBack_5 (by decide) (fun c9 => ?_) (fun c9 => ?_)
    · exact absurd c9 (by decide)
    · refine ev_iconst (-1) dX1_takeBack_8 (by decide) ?_
      exact ev_iret rfl dX1_takeBack_9 h
theorem BX1_takeBack_32 {N : Nat} {σ : Sg} {Q : Option Value → Sg → Prop} {x2 : Int32} {x3 : Int32} (h : ((σ.1 230 7) ≤ x3 → EvM N mJ6_bitCount_0f7a4 [.int x2] σ (fun r9 σ2 => ∃ v2, r9 = some (.int v2) ∧ (Q (some (.int v2)) σ2))) ∧ (¬ (σ.1 230 7) ≤ x3 → (((x2 >>> (x3 &&& 31)) &&& 1) = 1 → vp_in x3 20 ∧ (KX1_takeBack_32 N (u1 σ 234 (x3).toNatClampNeg (σ.1 230 11)) Q x2 (x3 + 1))) ∧ (¬ ((x2 >>> (x3 &&& 31)) &&& 1) = 1 → KX1_takeBack_32 N σ Q x2 (x3 + 1)))) : KX1_takeBack_32 N σ Q x2 x3 := by
  refine ev_iload_n 2 dX1_takeBack_32 rfl ?_
  refine ev_aload_n 0 dX1_takeBack_33 rfl ?_
  refine ev_get G1 lay_230 (k := 7) rfl (Nat.le_of_ble_eq_true rfl) dX1_takeBack_34 w_364 ?_
  refine ev_icmp_ge 65 dX1_takeBack_37 (by decide) (fun c9 => ?_) (fun c9 => ?_)
  · replace h := h.1 c9
    refine ev_iload_n 1 dX1_takeBack_65 rfl ?_
    refine ev_callS (M' := mJ6_bitCount_0f7a4) [.int x2] vJ6_bitCount_0f7a4 dX1_takeBack_66 w_1128 rfl rfl (Nat.le_of_ble_eq_true rfl) h ?_
    rintro r9 σ2 ⟨v2, rfl, h⟩
    exact ev_iret rfl dX1_takeBack_69 h
  · replace h := h.2 c9
    refine ev_iload_n 1 dX1_takeBack_40 rfl ?_
    refine ev_iload_n 2 dX1_takeBack_41 rfl ?_
    refine ev_ishr dX1_takeBack_42 ?_
    refine ev_iconst 1 dX1_takeBack_43 (by decide) ?_
    refine ev_iand dX1_takeBack_44 ?_
    refine ev_iconst 1 dX1_takeBack_45 (by decide) ?_
    refine ev_icmp_ne 59 dX1_takeBack_46 (by decide) (fun c9 => ?_) (fun c9 => ?_)
    · replace h := h.2 c9
      refine ev_iinc (lv' := [(3, .int (x3 + 1)), (0, .ref 230), (2, .int x2)]) (x3 + 1) 2 dX1_takeBack_59 rfl rfl (Nat.le_of_ble_eq_true rfl) rfl ?_
      refine ev_goto 32 dX1_takeBack_62 (by decide) ?_
      refine ev_sub [1, 2, 0] rfl ?_
      exact h
    · replace h := h.1 c9
      refine ev_aload_n 0 dX1_takeBack_49 rfl ?_
      refine ev_getR (r := 234) G1 lay_230 (k := 4) rfl (Nat.le_of_ble_eq_true rfl) dX1_takeBack_50 w_361 ?_
      refine ev_iload_n 2 dX1_takeBack_53 rfl ?_
      refine ev_aload_n 0 dX1_takeBack_54 rfl ?_
      refine ev_get G1 lay_230 (k := 11) rfl (Nat.le_of_ble_eq_true rfl) dX1_takeBack_55 w_368 ?_
      have hb58 := h.1
      replace h := h.2
      refine ev_iast lay_234 (Nat.le_of_ble_eq_true rfl) hb58 dX1_takeBack_58 ?_
      refine ev_iinc (lv' := [(3, .int (x3 + 1)), (0, .ref 230), (2, .int x2)]) (x3 + 1) 2 dX1_takeBack_59 rfl rfl (Nat.le_of_ble_eq_true rfl) rfl ?_
      refine ev_goto 32 dX1_takeBack_62 (by decide) ?_
      refine ev_sub [1, 2, 0] rfl ?_
      exact h
abbrev KX1_hangingOn_8 (N : Nat) (σ : Sg) (Q : Option Value → Sg → Prop) (x2 : Int32) (x3 : Int32) : Prop := Ev N mX1_hangingOn 8 [(0, .ref 230), (2, .int x2), (3, .int x3)] [] σ Q
theorem EX1_hangingOn {N : Nat} {σ : Sg} {Q : Option Value → Sg → Prop} {x1 : Int32} (h : KX1_hangingOn_8 N σ Q (1 <<< (x1 &&& 31)) (x1 + 1)) : EvM N mX1_hangingOn [.ref 230, .int x1] σ Q := by
  refine ev_entry rfl (Nat.le_of_ble_eq_true rfl) (lv := [(0, .ref 230), (1, .int x1)]) rfl ?_
  refine ev_iconst 1 dX1_hangingOn_0 (by decide) ?_
  refine ev_iload_n 1 dX1_hangingOn_1 rfl ?_
  refine ev_ishl dX1_hangingOn_2 ?_
  refine ev_istore_n (lv' := [(2, .int (1 <<< (x1 &&& 31))), (0, .ref 230), (1, .int x1)]) dX1_hangingOn_3 (Nat.le_of_ble_eq_true rfl) rfl ?_
  refine ev_iload_n 2 dX1_hangingOn_4 rfl ?_
  refine ev_iconst 1 dX1_hangingOn_5 (by decide) ?_
  refine ev_iadd dX1_hangingOn_6 ?_
  refine ev_istore_n (lv' := [(3, .int (x1 + 1)), (2, .int (1 <<< (x1 &&& 31))), (0, .ref 230), (1, .int x1)]) dX1_hangingOn_7 (Nat.le_of_ble_eq_true rfl) rfl ?_
  refine ev_sub [2, 1, 0] rfl ?_
  exact h
theorem BX1_hangingOn_8 {N : Nat} {σ : Sg} {Q : Option Value → Sg → Prop} {x2 : Int32} {x3 : Int32} (h : ((σ.1 230 7) ≤ x3 → Q (some (.int x2)) σ) ∧ (¬ (σ.1 230 7) ≤ x3 → vp_in x3 20 ∧ (((σ.1 234 (x3).toNatClampNeg) = (-4) → vp_in x3 20 ∧ ((((σ.1 235 (x3).toNatClampNeg) &&& x2) = 0 → KX1_hangingOn_8 N σ Q x2 (x3 + 1)) ∧ (¬ ((σ.1 235 (x3).toNatClampNeg) &&& x2) = 0 → KX1_hangingOn_8 N σ Q (x2 ||| (1 <<< (x3 &&& 31))) (x3 + 1)))) ∧ (¬ (σ.1 234 (x3).toNatClampNeg) = (-4) → KX1_hangingOn_8 N σ Q x2 (x3 + 1))))) : KX1_hangingOn_8 N σ Q x2 x3 := by
  refine ev_iload_n 2 dX1_hangingOn_8 rfl ?_
  refine ev_aload_n 0 dX1_hangingOn_9 rfl ?_
  refine ev_get G1 lay_230 (k := 7) rfl (Nat.le_of_ble_eq_true rfl) dX1_hangingOn_10 w_364 ?_
  refine ev_icmp_ge 50 dX1_hangingOn_13 (by decide) (fun c9 => ?_) (fun c9 => ?_)
  · replace h := h.1 c9
    refine ev_iload_n 1 dX1_hangingOn_50 rfl ?_
    exact ev_iret rfl dX1_hangingOn_51 h
  · replace h := h.2 c9
    refine ev_aload_n 0 dX1_hangingOn_16 rfl ?_
    refine ev_getR (r := 234) G1 lay_230 (k := 4) rfl (Nat.le_of_ble_eq_true rfl) dX1_hangingOn_17 w_361 ?_
    refine ev_iload_n 2 dX1_hangingOn_20 rfl ?_
    have hb21 := h.1
    replace h := h.2
    refine ev_iald lay_234 (Nat.le_of_ble_eq_true rfl) hb21 dX1_hangingOn_21 ?_
    refine ev_bipush (-4) dX1_hangingOn_22 (by decide) ?_
    refine ev_icmp_ne 44 dX1_hangingOn_24 (by decide) (fun c9 => ?_) (fun c9 => ?_)
    · replace h := h.2 c9
      refine ev_iinc (lv' := [(3, .int (x3 + 1)), (0, .ref 230), (2, .int x2)]) (x3 + 1) 2 dX1_hangingOn_44 rfl rfl (Nat.le_of_ble_eq_true rfl) rfl ?_
      refine ev_goto 8 dX1_hangingOn_47 (by decide) ?_
      refine ev_sub [1, 2, 0] rfl ?_
      exact h
    · replace h := h.1 c9
      refine ev_aload_n 0 dX1_hangingOn_27 rfl ?_
      refine ev_getR (r := 235) G1 lay_230 (k := 5) rfl (Nat.le_of_ble_eq_true rfl) dX1_hangingOn_28 w_362 ?_
      refine ev_iload_n 2 dX1_hangingOn_31 rfl ?_
      have hb32 := h.1
      replace h := h.2
      refine ev_iald lay_235 (Nat.le_of_ble_eq_true rfl) hb32 dX1_hangingOn_32 ?_
      refine ev_iload_n 1 dX1_hangingOn_33 rfl ?_
      refine ev_iand dX1_hangingOn_34 ?_
      refine ev_if_eq 44 dX1_hangingOn_35 (by decide) (fun c9 => ?_) (fun c9 => ?_)
      · replace h := h.1 c9
        refine ev_iinc (lv' := [(3, .int (x3 + 1)), (0, .ref 230), (2, .int x2)]) (x3 + 1) 2 dX1_hangingOn_44 rfl rfl (Nat.le_of_ble_eq_true rfl) rfl ?_
        refine ev_goto 8 dX1_hangingOn_47 (by decide) ?_
        refine ev_sub [1, 2, 0] rfl ?_
        exact h
      · replace h := h.2 c9
        refine ev_iload_n 1 dX1_hangingOn_38 rfl ?_
        refine ev_iconst 1 dX1_hangingOn_39 (by decide) ?_
        refine ev_iload_n 2 dX1_hangingOn_40 rfl ?_
        refine ev_ishl dX1_hangingOn_41 ?_
        refine ev_ior dX1_hangingOn_42 ?_
        refine ev_istore_n (lv' := [(2, .int (x2 ||| (1 <<< (x3 &&& 31)))), (0, .ref 230), (3, .int x3)]) dX1_hangingOn_43 (Nat.le_of_ble_eq_true rfl) rfl ?_
        refine ev_iinc (lv' := [(3, .int (x3 + 1)), (2, .int (x2 ||| (1 <<< (x3 &&& 31)))), (0, .ref 230)]) (x3 + 1) 2 dX1_hangingOn_44 rfl rfl (Nat.le_of_ble_eq_true rfl) rfl ?_
        refine ev_goto 8 dX1_hangingOn_47 (by decide) ?_
        refine ev_sub [2, 1, 0] rfl ?_
        exact h
theorem EX1_moveDay {N : Nat} {σ : Sg} {Q : Option Value → Sg → Prop} {x1 : Int32} (h : (x1 < (σ.1 230 11) → Q (some (.int (-1))) σ) ∧ (¬ x1 < (σ.1 230 11) → (x1 ≤ 99 → Q (some (.int (σ.1 230 11))) (u1 σ 230 11 x1)) ∧ (¬ x1 ≤ 99 → Q (some (.int (-1))) σ))) : EvM N mX1_moveDay [.ref 230, .int x1] σ Q := by
  refine ev_entry rfl (Nat.le_of_ble_eq_true rfl) (lv := [(0, .ref 230), (1, .int x1)]) rfl ?_
  refine ev_iload_n 1 dX1_moveDay_0 rfl ?_
  refine ev_aload_n 0 dX1_moveDay_1 rfl ?_
  refine ev_get G1 lay_230 (k := 11) rfl (Nat.le_of_ble_eq_true rfl) dX1_moveDay_2 w_368 ?_
  refine ev_icmp_lt 14 dX1_moveDay_5 (by decide) (fun c9 => ?_) (fun c9 => ?_)
  · replace h := h.1 c9
    refine ev_iconst (-1) dX1_moveDay_14 (by decide) ?_
    exact ev_iret rfl dX1_moveDay_15 h
  · replace h := h.2 c9
    refine ev_iload_n 1 dX1_moveDay_8 rfl ?_
    refine ev_bipush 99 dX1_moveDay_9 (by decide) ?_
    refine ev_icmp_le 16 dX1_moveDay_11 (by decide) (fun c9 => ?_) (fun c9 => ?_)
    · replace h := h.1 c9
      refine ev_aload_n 0 dX1_moveDay_16 rfl ?_
      refine ev_get G1 lay_230 (k := 11) rfl (Nat.le_of_ble_eq_true rfl) dX1_moveDay_17 w_368 ?_
      refine ev_istore_n (lv' := [(2, .int (σ.1 230 11)), (0, .ref 230), (1, .int x1)]) dX1_moveDay_20 (Nat.le_of_ble_eq_true rfl) rfl ?_
      refine ev_aload_n 1 dX1_moveDay_21 rfl ?_
      refine ev_iload_n 2 dX1_moveDay_22 rfl ?_
      refine ev_put G1 lay_230 (k := 11) rfl (Nat.le_of_ble_eq_true rfl) rfl (by decide +kernel) dX1_moveDay_23 w_368 ?_
      refine ev_iload_n 0 dX1_moveDay_26 rfl ?_
      exact ev_iret rfl dX1_moveDay_27 h
    · replace h := h.2 c9
      refine ev_iconst (-1) dX1_moveDay_14 (by decide) ?_
      exact ev_iret rfl dX1_moveDay_15 h
abbrev KX1_knownOn_34 (N : Nat) (σ : Sg) (Q : Option Value → Sg → Prop) (x1 : Int32) (x2 : Int32) (x3 : Int32) (x4 : Int32) (x5 : Int32) (x6 : Int32) : Prop := Ev (N + 1) mX1_knownOn 34 [(0, .ref 230), (1, .int x1), (2, .int x2), (3, .int x3), (4, .int x4), (5, .int x5), (6, .int x6)] [] σ Q
theorem EX1_knownOn {N : Nat} {σ : Sg} {Q : Option Value → Sg → Prop} {x1 : Int32} {x2 : Int32} (h : (x1 < 0 → Q (some (.int (-1))) σ) ∧ (¬ x1 < 0 → (99 < x1 → Q (some (.int (-1))) σ) ∧ (¬ 99 < x1 → (x2 < 0 → Q (some (.int (-1))) σ) ∧ (¬ x2 < 0 → (x2 ≤ 2 → KX1_knownOn_34 N σ Q x1 x2 0 (-4) (-4) 0) ∧ (¬ x2 ≤ 2 → Q (some (.int (-1))) σ))))) : EvM (N + 1) mX1_knownOn [.ref 230, .int x1, .int x2] σ Q := by
  refine ev_entry rfl (Nat.le_of_ble_eq_true rfl) (lv := [(0, .ref 230), (1, .int x1), (2, .int x2)]) rfl ?_
  refine ev_iload_n 1 dX1_knownOn_0 rfl ?_
  refine ev_if_lt 19 dX1_knownOn_1 (by decide) (fun c9 => ?_) (fun c9 => ?_)
  · replace h := h.1 c9
    refine ev_iconst (-1) dX1_knownOn_19 (by decide) ?_
    exact ev_iret rfl dX1_knownOn_20 h
  · replace h := h.2 c9
    refine ev_iload_n 1 dX1_knownOn_4 rfl ?_
    refine ev_bipush 99 dX1_knownOn_5 (by decide) ?_
    refine ev_icmp_gt 19 dX1_knownOn_7 (by decide) (fun c9 => ?_) (fun c9 => ?_)
    · replace h := h.1 c9
      refine ev_iconst (-1) dX1_knownOn_19 (by decide) ?_
      exact ev_iret rfl dX1_knownOn_20 h
    · replace h := h.2 c9
      refine ev_iload_n 2 dX1_knownOn_10 rfl ?_
      refine ev_if_lt 19 dX1_knownOn_11 (by decide) (fun c9 => ?_) (fun c9 => ?_)
      · replace h := h.1 c9
        refine ev_iconst (-1) dX1_knownOn_19 (by decide) ?_
        exact ev_iret rfl dX1_knownOn_20 h
      · replace h := h.2 c9
        refine ev_iload_n 2 dX1_knownOn_14 rfl ?_
        refine ev_iconst 2 dX1_knownOn_15 (by decide) ?_
        refine ev_icmp_le 21 dX1_knownOn_16 (by decide) (fun c9 => ?_) (fun c9 => ?_)
        · replace h := h.1 c9
          refine ev_iconst 0 dX1_knownOn_21 (by decide) ?_
          refine ev_istore_n (lv' := [(3, .int 0), (0, .ref 230), (1, .int x1), (2, .int x2)]) dX1_knownOn_22 (Nat.le_of_ble_eq_true rfl) rfl ?_
          refine ev_bipush (-4) dX1_knownOn_23 (by decide) ?_
          refine ev_istore (lv' := [(4, .int (-4)), (3, .int 0), (0, .ref 230), (1, .int x1), (2, .int x2)]) dX1_knownOn_25 (Nat.le_of_ble_eq_true rfl) rfl ?_
          refine ev_bipush (-4) dX1_knownOn_27 (by decide) ?_
          refine ev_istore (lv' := [(5, .int (-4)), (4, .int (-4)), (3, .int 0), (0, .ref 230), (1, .int x1), (2, .int x2)]) dX1_knownOn_29 (Nat.le_of_ble_eq_true rfl) rfl ?_
          refine ev_iconst 0 dX1_knownOn_31 (by decide) ?_
          refine ev_istore (lv' := [(6, .int 0), (5, .int (-4)), (4, .int (-4)), (3, .int 0), (0, .ref 230), (1, .int x1), (2, .int x2)]) dX1_knownOn_32 (Nat.le_of_ble_eq_true rfl) rfl ?_
          refine ev_sub [4, 5, 6, 3, 2, 1, 0] rfl ?_
          exact h
        · replace h := h.2 c9
          refine ev_iconst (-1) dX1_knownOn_19 (by decide) ?_
          exact ev_iret rfl dX1_knownOn_20 h
theorem BX1_knownOn_34 {N : Nat} {σ : Sg} {Q : Option Value → Sg → Prop} {x1 : Int32} {x2 : Int32} {x3 : Int32} {x4 : Int32} {x5 : Int32} {x6 : Int32} (h : ((σ.1 230 7) ≤ x6 → (x2 = 0 → Q (some (.int x3)) σ) ∧ (¬ x2 = 0 → (x2 = 1 → Q (some (.int x4)) σ) ∧ (¬ x2 = 1 → Q (some (.int x5)) σ))) ∧ (¬ (σ.1 230 7) ≤ x6 → EvM N mX1_isKnown [.ref 230, .int x6, .int x1] σ (fun r9 σ1 => ∃ v1, r9 = some (.int v1) ∧ ((v1 = 0 → KX1_knownOn_34 N σ1 Q x1 x2 x3 x4 x5 (x6 + 1)) ∧ (¬ v1 = 0 → (x3 = 0 → KX1_knownOn_34 N σ1 Q x1 x2 (x3 + 1) x6 x6 (x6 + 1)) ∧ (¬ x3 = 0 → KX1_knownOn_34 N σ1 Q x1 x2 (x3 + 1) x4 x6 (x6 + 1))))))) : KX1_knownOn_34 N σ Q x1 x2 x3 x4 x5 x6 := by
  refine ev_iload 6 dX1_knownOn_34 rfl ?_
  refine ev_aload_n 0 dX1_knownOn_36 rfl ?_
  refine ev_get G1 lay_230 (k := 7) rfl (Nat.le_of_ble_eq_true rfl) dX1_knownOn_37 w_364 ?_
  refine ev_icmp_ge 77 dX1_knownOn_40 (by decide) (fun c9 => ?_) (fun c9 => ?_)
  · replace h := h.1 c9
    refine ev_iload_n 2 dX1_knownOn_77 rfl ?_
    refine ev_if_ne 83 dX1_knownOn_78 (by decide) (fun c9 => ?_) (fun c9 => ?_)
    · replace h := h.2 c9
      refine ev_iload_n 2 dX1_knownOn_83 rfl ?_
      refine ev_iconst 1 dX1_knownOn_84 (by decide) ?_
      refine ev_icmp_ne 93 dX1_knownOn_85 (by decide) (fun c9 => ?_) (fun c9 => ?_)
      · replace h := h.2 c9
        refine ev_iload 5 dX1_knownOn_93 rfl ?_
        exact ev_iret rfl dX1_knownOn_95 h
      · replace h := h.1 c9
        refine ev_iload 4 dX1_knownOn_88 rfl ?_
        refine ev_goto 95 dX1_knownOn_90 (by decide) ?_
        exact ev_iret rfl dX1_knownOn_95 h
    · replace h := h.1 c9
      refine ev_iload_n 3 dX1_knownOn_81 rfl ?_
      exact ev_iret rfl dX1_knownOn_82 h
  · replace h := h.2 c9
    refine ev_aload_n 0 dX1_knownOn_43 rfl ?_
    refine ev_iload 6 dX1_knownOn_44 rfl ?_
    refine ev_iload_n 1 dX1_knownOn_46 rfl ?_
    refine ev_callV (M' := mX1_isKnown) [.int x6, .int x1] vX1_isKnown G1 lay_230 dX1_knownOn_47 w_1157 rfl rfl (Nat.le_of_ble_eq_true rfl) h ?_
    rintro r9 σ1 ⟨v1, rfl, h⟩
    refine ev_if_ne 56 dX1_knownOn_50 (by decide) (fun c9 => ?_) (fun c9 => ?_)
    · replace h := h.2 c9
      refine ev_iload_n 3 dX1_knownOn_56 rfl ?_
      refine ev_if_ne 64 dX1_knownOn_57 (by decide) (fun c9 => ?_) (fun c9 => ?_)
      · replace h := h.2 c9
        refine ev_iload 6 dX1_knownOn_64 rfl ?_
        refine ev_istore (lv' := [(5, .int x6), (0, .ref 230), (1, .int x1), (2, .int x2), (3, .int x3), (4, .int x4), (6, .int x6)]) dX1_knownOn_66 (Nat.le_of_ble_eq_true rfl) rfl ?_
        refine ev_iinc (lv' := [(3, .int (x3 + 1)), (5, .int x6), (0, .ref 230), (1, .int x1), (2, .int x2), (4, .int x4), (6, .int x6)]) (x3 + 1) 4 dX1_knownOn_68 rfl rfl (Nat.le_of_ble_eq_true rfl) rfl ?_
        refine ev_iinc (lv' := [(6, .int (x6 + 1)), (3, .int (x3 + 1)), (5, .int x6), (0, .ref 230), (1, .int x1), (2, .int x2), (4, .int x4)]) (x6 + 1) 6 dX1_knownOn_71 rfl rfl (Nat.le_of_ble_eq_true rfl) rfl ?_
        refine ev_goto 34 dX1_knownOn_74 (by decide) ?_
        refine ev_sub [3, 4, 5, 1, 6, 2, 0] rfl ?_
        exact h
      · replace h := h.1 c9
        refine ev_iload 6 dX1_knownOn_60 rfl ?_
        refine ev_istore (lv' := [(4, .int x6), (0, .ref 230), (1, .int x1), (2, .int x2), (3, .int x3), (5, .int x5), (6, .int x6)]) dX1_knownOn_62 (Nat.le_of_ble_eq_true rfl) rfl ?_
        refine ev_iload 6 dX1_knownOn_64 rfl ?_
        refine ev_istore (lv' := [(5, .int x6), (4, .int x6), (0, .ref 230), (1, .int x1), (2, .int x2), (3, .int x3), (6, .int x6)]) dX1_knownOn_66 (Nat.le_of_ble_eq_true rfl) rfl ?_
        refine ev_iinc (lv' := [(3, .int (x3 + 1)), (5, .int x6), (4, .int x6), (0, .ref 230), (1, .int x1), (2, .int x2), (6, .int x6)]) (x3 + 1) 5 dX1_knownOn_68 rfl rfl (Nat.le_of_ble_eq_true rfl) rfl ?_
        refine ev_iinc (lv' := [(6, .int (x6 + 1)), (3, .int (x3 + 1)), (5, .int x6), (4, .int x6), (0, .ref 230), (1, .int x1), (2, .int x2)]) (x6 + 1) 6 dX1_knownOn_71 rfl rfl (Nat.le_of_ble_eq_true rfl) rfl ?_
        refine ev_goto 34 dX1_knownOn_74 (by decide) ?_
        refine ev_sub [4, 5, 6, 1, 3, 2, 0] rfl ?_
        exact h
    · replace h := h.1 c9
      refine ev_goto 71 dX1_knownOn_53 (by decide) ?_
      refine ev_iinc (lv' := [(6, .int (x6 + 1)), (0, .ref 230), (1, .int x1), (2, .int x2), (3, .int x3), (4, .int x4), (5, .int x5)]) (x6 + 1) 6 dX1_knownOn_71 rfl rfl (Nat.le_of_ble_eq_true rfl) rfl ?_
      refine ev_goto 34 dX1_knownOn_74 (by decide) ?_
      refine ev_sub [1, 2, 3, 4, 5, 6, 0] rfl ?_
      exact h
theorem EX1_isKnown {N : Nat} {σ : Sg} {Q : Option Value → Sg → Prop} {x1 : Int32} {x2 : Int32} (h : vp_in x1 20 ∧ ((x2 < (σ.1 233 (x1).toNatClampNeg) → Q (some (.int 0)) σ) ∧ (¬ x2 < (σ.1 233 (x1).toNatClampNeg) → vp_in x1 20 ∧ (((σ.1 234 (x1).toNatClampNeg) = (-4) → Q (some (.int 1)) σ) ∧ (¬ (σ.1 234 (x1).toNatClampNeg) = (-4) → vp_in x1 20 ∧ (((σ.1 234 (x1).toNatClampNeg) ≤ x2 → Q (some (.int 0)) σ) ∧ (¬ (σ.1 234 (x1).toNatClampNeg) ≤ x2 → Q (some (.int 1)) σ))))))) : EvM N mX1_isKnown [.ref 230, .int x1, .int x2] σ Q := by
  refine ev_entry rfl (Nat.le_of_ble_eq_true rfl) (lv := [(0, .ref 230), (1, .int x1), (2, .int x2)]) rfl ?_
  refine ev_aload_n 0 dX1_isKnown_0 rfl ?_
  refine ev_getR (r := 233) G1 lay_230 (k := 3) rfl (Nat.le_of_ble_eq_true rfl) dX1_isKnown_1 w_360 ?_
  refine ev_iload_n 1 dX1_isKnown_4 rfl ?_
  have hb5 := h.1
  replace h := h.2
  refine ev_iald lay_233 (Nat.le_of_ble_eq_true rfl) hb5 dX1_isKnown_5 ?_
  refine ev_iload_n 2 dX1_isKnown_6 rfl ?_
  refine ev_icmp_gt 35 dX1_isKnown_7 (by decide) (fun c9 => ?_) (fun c9 => ?_)
  · replace h := h.1 c9
    refine ev_iconst 0 dX1_isKnown_35 (by decide) ?_
    exact ev_zret (ty := .boolean) rfl (by rfl) dX1_isKnown_36 h
  · replace h := h.2 c9
    refine ev_aload_n 0 dX1_isKnown_10 rfl ?_
    refine ev_getR (r := 234) G1 lay_230 (k := 4) rfl (Nat.le_of_ble_eq_true rfl) dX1_isKnown_11 w_361 ?_
    refine ev_iload_n 1 dX1_isKnown_14 rfl ?_
    have hb15 := h.1
    replace h := h.2
    refine ev_iald lay_234 (Nat.le_of_ble_eq_true rfl) hb15 dX1_isKnown_15 ?_
    refine ev_bipush (-4) dX1_isKnown_16 (by decide) ?_
    refine ev_icmp_eq 31 dX1_isKnown_18 (by decide) (fun c9 => ?_) (fun c9 => ?_)
    · replace h := h.1 c9
      refine ev_iconst 1 dX1_isKnown_31 (by decide) ?_
      refine ev_goto 36 dX1_isKnown_32 (by decide) ?_
      exact ev_zret (ty := .boolean) rfl (by rfl) dX1_isKnown_36 h
    · replace h := h.2 c9
      refine ev_aload_n 0 dX1_isKnown_21 rfl ?_
      refine ev_getR (r := 234) G1 lay_230 (k := 4) rfl (Nat.le_of_ble_eq_true rfl) dX1_isKnown_22 w_361 ?_
      refine ev_iload_n 1 dX1_isKnown_25 rfl ?_
      have hb26 := h.1
      replace h := h.2
      refine ev_iald lay_234 (Nat.le_of_ble_eq_true rfl) hb26 dX1_isKnown_26 ?_
      refine ev_iload_n 2 dX1_isKnown_27 rfl ?_
      refine ev_icmp_le 35 dX1_isKnown_28 (by decide) (fun c9 => ?_) (fun c9 => ?_)
      · replace h := h.1 c9
        refine ev_iconst 0 dX1_isKnown_35 (by decide) ?_
        exact ev_zret (ty := .boolean) rfl (by rfl) dX1_isKnown_36 h
      · replace h := h.2 c9
        refine ev_iconst 1 dX1_isKnown_31 (by decide) ?_
        refine ev_goto 36 dX1_isKnown_32 (by decide) ?_
        exact ev_zret (ty := .boolean) rfl (by rfl) dX1_isKnown_36 h
theorem EX2_add {N : Nat} {σ : Sg} {Q : Option Value → Sg → Prop} {x1 : Int32} (h : (x1 < 0 → Q (some (.int (-1))) σ) ∧ (¬ x1 < 0 → (x1 < 4096 → ((σ.1 1 3) < 24 → vp_in (σ.1 1 3) 24 ∧ (EvM (N + 2) mX2_group [.ref 1, .int ((u1 (u1 σ 2 (σ.1 1 3).toNatClampNeg x1) 1 3 (((u1 σ 2 (σ.1 1 3).toNatClampNeg x1).1 1 3) + 1)).1 1 4), .ref 3] (u1 (u1 σ 2 (σ.1 1 3).toNatClampNeg x1) 1 3 (((u1 σ 2 (σ.1 1 3).toNatClampNeg x1).1 1 3) + 1)) (fun r9 σ1 => r9 = none ∧ (Q (some (.int ((σ1.1 1 3) - 1))) σ1)))) ∧ (¬ (σ.1 1 3) < 24 → Q (some (.int (-3))) σ)) ∧ (¬ x1 < 4096 → Q (some (.int (-1))) σ))) : EvM (N + 3) mX2_add [.ref 1, .int x1] σ Q := by
  refine ev_entry rfl (Nat.le_of_ble_eq_true rfl) (lv := [(0, .ref 1), (1, .int x1)]) rfl ?_
  refine ev_iload_n 1 dX2_add_0 rfl ?_
  refine ev_if_lt 11 dX2_add_1 (by decide) (fun c9 => ?_) (fun c9 => ?_)
  · replace h := h.1 c9
    refine ev_iconst (-1) dX2_add_11 (by decide) ?_
    exact ev_iret rfl dX2_add_12 h
  · replace h := h.2 c9
    refine ev_iload_n 1 dX2_add_4 rfl ?_
    refine ev_sipush 4096 dX2_add_5 (by decide) ?_
    refine ev_icmp_lt 13 dX2_add_8 (by decide) (fun c9 => ?_) (fun c9 => ?_)
    · replace h := h.1 c9
      refine ev_aload_n 0 dX2_add_13 rfl ?_
      refine ev_get G2 lay_1 (k := 3) rfl (Nat.le_of_ble_eq_true rfl) dX2_add_14 w_130 ?_
      refine ev_bipush 24 dX2_add_17 (by decide) ?_
      refine ev_icmp_lt 25 dX2_add_19 (by decide) (fun c9 => ?_) (fun c9 => ?_)
      · replace h := h.1 c9
        refine ev_aload_n 0 dX2_add_25 rfl ?_
        refine ev_getR (r := 2) G2 lay_1 (k := 0) rfl (Nat.le_of_ble_eq_true rfl) dX2_add_26 w_127 ?_
        refine ev_aload_n 0 dX2_add_29 rfl ?_
        refine ev_get G2 lay_1 (k := 3) rfl (Nat.le_of_ble_eq_true rfl) dX2_add_30 w_130 ?_
        refine ev_iload_n 1 dX2_add_33 rfl ?_
        have hb34 := h.1
        replace h := h.2
        refine ev_iast lay_2 (Nat.le_of_ble_eq_true rfl) hb34 dX2_add_34 ?_
        refine ev_aload_n 0 dX2_add_35 rfl ?_
        refine ev_dup dX2_add_36 rfl ?_
        refine ev_get G2 lay_1 (k := 3) rfl (Nat.le_of_ble_eq_true rfl) dX2_add_37 w_130 ?_
        refine ev_iconst 1 dX2_add_40 (by decide) ?_
        refine ev_iadd dX2_add_41 ?_
        refine ev_put G2 lay_1 (k := 3) rfl (Nat.le_of_ble_eq_true rfl) rfl (by decide +kernel) dX2_add_42 w_130 ?_
        refine ev_aload_n 0 dX2_add_45 rfl ?_
        refine ev_aload_n 0 dX2_add_46 rfl ?_
        refine ev_get G2 lay_1 (k := 4) rfl (Nat.le_of_ble_eq_true rfl) dX2_add_47 w_131 ?_
        refine ev_aload_n 0 dX2_add_50 rfl ?_
        refine ev_getR (r := 3) G2 lay_1 (k := 1) rfl (Nat.le_of_ble_eq_true rfl) dX2_add_51 w_128 ?_
        refine ev_callV (M' := mX2_group) [.int ((u1 (u1 σ 2 (σ.1 1 3).toNatClampNeg x1) 1 3 (((u1 σ 2 (σ.1 1 3).toNatClampNeg x1).1 1 3) + 1)).1 1 4), .ref 3] vX2_group G2 lay_1 dX2_add_54 w_447 rfl rfl (Nat.le_of_ble_eq_true rfl) h ?_
        rintro r9 σ1 ⟨rfl, h⟩
        refine ev_aload_n 0 dX2_add_57 rfl ?_
        refine ev_get G2 lay_1 (k := 3) rfl (Nat.le_of_ble_eq_true rfl) dX2_add_58 w_130 ?_
        refine ev_iconst 1 dX2_add_61 (by decide) ?_
        refine ev_isub dX2_add_62 ?_
        exact ev_iret rfl dX2_add_63 h
      · replace h := h.2 c9
        refine ev_bipush (-3) dX2_add_22 (by decide) ?_
        exact ev_iret rfl dX2_add_24 h
    · replace h := h.2 c9
      refine ev_iconst (-1) dX2_add_11 (by decide) ?_
      exact ev_iret rfl dX2_add_12 h
theorem EX2_limitTo {N : Nat} {σ : Sg} {Q : Option Value → Sg → Prop} {x1 : Int32} (h : (x1 < 0 → Q (some (.int (-1))) σ) ∧ (¬ x1 < 0 → (x1 ≤ 12 → EvM (N + 2) mX2_group [.ref 1, .int ((u1 σ 1 4 x1).1 1 4), .ref 3] (u1 σ 1 4 x1) (fun r9 σ1 => r9 = none ∧ (Q (some (.int (σ.1 1 4))) σ1))) ∧ (¬ x1 ≤ 12 → Q (some (.int (-1))) σ))) : EvM (N + 3) mX2_limitTo [.ref 1, .int x1] σ Q := by
  refine ev_entry rfl (Nat.le_of_ble_eq_true rfl) (lv := [(0, .ref 1), (1, .int x1)]) rfl ?_
  refine ev_iload_n 1 dX2_limitTo_0 rfl ?_
  refine ev_if_lt 10 dX2_limitTo_1 (by decide) (fun c9 => ?_) (fun c9 => ?_)
  · replace h := h.1 c9
    refine ev_iconst (-1) dX2_limitTo_10 (by decide) ?_
    exact ev_iret rfl dX2_limitTo_11 h
  · replace h := h.2 c9
    refine ev_iload_n 1 dX2_limitTo_4 rfl ?_
    refine ev_bipush 12 dX2_limitTo_5 (by decide) ?_
    refine ev_icmp_le 12 dX2_limitTo_7 (by decide) (fun c9 => ?_) (fun c9 => ?_)
    · replace h := h.1 c9
      refine ev_aload_n 0 dX2_limitTo_12 rfl ?_
      refine ev_get G2 lay_1 (k := 4) rfl (Nat.le_of_ble_eq_true rfl) dX2_limitTo_13 w_131 ?_
      refine ev_istore_n (lv' := [(2, .int (σ.1 1 4)), (0, .ref 1), (1, .int x1)]) dX2_limitTo_16 (Nat.le_of_ble_eq_true rfl) rfl ?_
      refine ev_aload_n 1 dX2_limitTo_17 rfl ?_
      refine ev_iload_n 2 dX2_limitTo_18 rfl ?_
      refine ev_put G2 lay_1 (k := 4) rfl (Nat.le_of_ble_eq_true rfl) rfl (by decide +kernel) dX2_limitTo_19 w_131 ?_
      refine ev_aload_n 1 dX2_limitTo_22 rfl ?_
      refine ev_aload_n 1 dX2_limitTo_23 rfl ?_
      refine ev_get G2 lay_1 (k := 4) rfl (Nat.le_of_ble_eq_true rfl) dX2_limitTo_24 w_131 ?_
      refine ev_aload_n 1 dX2_limitTo_27 rfl ?_
      refine ev_getR (r := 3) G2 lay_1 (k := 1) rfl (Nat.le_of_ble_eq_true rfl) dX2_limitTo_28 w_128 ?_
      refine ev_callV (M' := mX2_group) [.int ((u1 σ 1 4 x1).1 1 4), .ref 3] vX2_group G2 lay_1 dX2_limitTo_31 w_447 rfl rfl (Nat.le_of_ble_eq_true rfl) h ?_
      rintro r9 σ1 ⟨rfl, h⟩
      refine ev_iload_n 0 dX2_limitTo_34 rfl ?_
      exact ev_iret rfl dX2_limitTo_35 h
    · replace h := h.2 c9
      refine ev_iconst (-1) dX2_limitTo_10 (by decide) ?_
      exact ev_iret rfl dX2_limitTo_11 h
theorem EX2_isSign {N : Nat} {σ : Sg} {Q : Option Value → Sg → Prop} {x1 : Int32} (h : ((0 ≤ (x1).toInt ∧ (x1).toInt < (σ.1 1 3).toInt) → vp_in x1 24 ∧ (((σ.1 3 (x1).toNatClampNeg) = x1 → Q (some (.int 1)) σ) ∧ (¬ (σ.1 3 (x1).toNatClampNeg) = x1 → Q (some (.int 0)) σ))) ∧ (¬ (0 ≤ (x1).toInt ∧ (x1).toInt < (σ.1 1 3).toInt) → Q (some (.int 0)) σ)) : EvM (N + 1) mX2_isSign [.ref 1, .int x1] σ Q := by
  refine ev_entry rfl (Nat.le_of_ble_eq_true rfl) (lv := [(0, .ref 1), (1, .int x1)]) rfl ?_
  refine ev_aload_n 0 dX2_isSign_0 rfl ?_
  refine ev_iload_n 1 dX2_isSign_1 rfl ?_
  refine ev_callV (M' := mX2_isForm) [.int x1] vX2_isForm G2 lay_1 dX2_isSign_2 w_613 rfl rfl (Nat.le_of_ble_eq_true rfl) (C2_isForm (Q := fun r9 s9 => σ = s9 ∧ ((r9 = some (.int 1) ∧ (0 ≤ (x1).toInt ∧ (x1).toInt < (σ.1 1 3).toInt)) ∨ (r9 = some (.int 0) ∧ ¬ (0 ≤ (x1).toInt ∧ (x1).toInt < (σ.1 1 3).toInt)))) ⟨fun c9 => ⟨rfl, Or.inl ⟨rfl, c9⟩⟩, fun c9 => ⟨rfl, Or.inr ⟨rfl, c9⟩⟩⟩) ?_
  rintro r9 s9 ⟨rfl, ⟨rfl, c9⟩ | ⟨rfl, c9⟩⟩
  · replace h := h.1 c9
    refine ev_if_eq 22 dX2_isSign_5 (by decide) (fun c9 => ?_) (fun c9 => ?_)
    · exact absurd c9 (by decide)
    · refine ev_aload_n 0 dX2_isSign_8 rfl ?_
      refine ev_getR (r := 3) G2 lay_1 (k := 1) rfl (Nat.le_of_ble_eq_true rfl) dX2_isSign_9 w_128 ?_
      refine ev_iload_n 1 dX2_isSign_12 rfl ?_
      have hb13 := h.1
      replace h := h.2
      refine ev_iald lay_3 (Nat.le_of_ble_eq_true rfl) hb13 dX2_isSign_13 ?_
      refine ev_iload_n 1 dX2_isSign_14 rfl ?_
      refine ev_icmp_ne 22 dX2_isSign_15 (by decide) (fun c9 => ?_) (fun c9 => ?_)
      · replace h := h.2 c9
        refine ev_iconst 0 dX2_isSign_22 (by decide) ?_
        exact ev_zret (ty := .boolean) rfl (by rfl) dX2_isSign_23 h
      · replace h := h.1 c9
        refine ev_iconst 1 dX2_isSign_18 (by decide) ?_
        refine ev_goto 23 dX2_isSign_19 (by decide) ?_
        exact ev_zret (ty := .boolean) rfl (by rfl) dX2_isSign_23 h
  · replace h := h.2 c9
    refine ev_if_eq 22 dX2_isSign_5 (by decide) (fun c9 => ?_) (fun c9 => ?_)
    · refine ev_iconst 0 dX2_isSign_22 (by decide) ?_
      exact ev_zret (ty := .boolean) rfl (by rfl) dX2_isSign_23 h
    · exact absurd c9 (by decide)
theorem EX2_signOf {N : Nat} {σ : Sg} {Q : Option Value → Sg → Prop} {x1 : Int32} (h : (x1 < 0 → Q (some (.int (-1))) σ) ∧ (¬ x1 < 0 → ((σ.1 1 3) ≤ x1 → Q (some (.int (-1))) σ) ∧ (¬ (σ.1 1 3) ≤ x1 → vp_in x1 24 ∧ (Q (some (.int (σ.1 3 (x1).toNatClampNeg))) σ)))) : EvM N mX2_signOf [.ref 1, .int x1] σ Q := by
  refine ev_entry rfl (Nat.le_of_ble_eq_true rfl) (lv := [(0, .ref 1), (1, .int x1)]) rfl ?_
  refine ev_iload_n 1 dX2_signOf_0 rfl ?_
  refine ev_if_lt 21 dX2_signOf_1 (by decide) (fun c9 => ?_) (fun c9 => ?_)
  · replace h := h.1 c9
    refine ev_iconst (-1) dX2_signOf_21 (by decide) ?_
    exact ev_iret rfl dX2_signOf_22 h
  · replace h := h.2 c9
    refine ev_iload_n 1 dX2_signOf_4 rfl ?_
    refine ev_aload_n 0 dX2_signOf_5 rfl ?_
    refine ev_get G2 lay_1 (k := 3) rfl (Nat.le_of_ble_eq_true rfl) dX2_signOf_6 w_130 ?_
    refine ev_icmp_ge 21 dX2_signOf_9 (by decide) (fun c9 => ?_) (fun c9 => ?_)
    · replace h := h.1 c9
      refine ev_iconst (-1) dX2_signOf_21 (by decide) ?_
      exact ev_iret rfl dX2_signOf_22 h
    · replace h := h.2 c9
      refine ev_aload_n 0 dX2_signOf_12 rfl ?_
      refine ev_getR (r := 3) G2 lay_1 (k := 1) rfl (Nat.le_of_ble_eq_true rfl) dX2_signOf_13 w_128 ?_
      refine ev_iload_n 1 dX2_signOf_16 rfl ?_
      have hb17 := h.1
      replace h := h.2
      refine ev_iald lay_3 (Nat.le_of_ble_eq_true rfl) hb17 dX2_signOf_17 ?_
      refine ev_goto 22 dX2_signOf_18 (by decide) ?_
      exact ev_iret rfl dX2_signOf_22 h
abbrev KX2_groups_4 (N : Nat) (σ : Sg) (Q : Option Value → Sg → Prop) (x1 : Int32) (x2 : Int32) : Prop := Ev N mX2_groups 4 [(0, .ref 1), (1, .int x1), (2, .int x2)] [] σ Q
theorem EX2_groups {N : Nat} {σ : Sg} {Q : Option Value → Sg → Prop} (h : KX2_groups_4 N σ Q 0 0) : EvM N mX2_groups [.ref 1] σ Q := by
  refine ev_entry rfl (Nat.le_of_ble_eq_true rfl) (lv := [(0, .ref 1)]) rfl ?_
  refine ev_iconst 0 dX2_groups_0 (by decide) ?_
  refine ev_istore_n (lv' := [(1, .int 0), (0, .ref 1)]) dX2_groups_1 (Nat.le_of_ble_eq_true rfl) rfl ?_
  refine ev_iconst 0 dX2_groups_2 (by decide) ?_
  refine ev_istore_n (lv' := [(2, .int 0), (1, .int 0), (0, .ref 1)]) dX2_groups_3 (Nat.le_of_ble_eq_true rfl) rfl ?_
  refine ev_sub [2, 1, 0] rfl ?_
  exact h
theorem BX2_groups_4 {N : Nat} {σ : Sg} {Q : Option Value → Sg → Prop} {x1 : Int32} {x2 : Int32} (h : ((σ.1 1 3) ≤ x2 → Q (some (.int x1)) σ) ∧ (¬ (σ.1 1 3) ≤ x2 → vp_in x2 24 ∧ (((σ.1 3 (x2).toNatClampNeg) = x2 → KX2_groups_4 N σ Q (x1 + 1) (x2 + 1)) ∧ (¬ (σ.1 3 (x2).toNatClampNeg) = x2 → KX2_groups_4 N σ Q x1 (x2 + 1))))) : KX2_groups_4 N σ Q x1 x2 := by
  refine ev_iload_n 2 dX2_groups_4 rfl ?_
  refine ev_aload_n 0 dX2_groups_5 rfl ?_
  refine ev_get G2 lay_1 (k := 3) rfl (Nat.le_of_ble_eq_true rfl) dX2_groups_6 w_130 ?_
  refine ev_icmp_ge 31 dX2_groups_9 (by decide) (fun c9 => ?_) (fun c9 => ?_)
  · replace h := h.1 c9
    refine ev_iload_n 1 dX2_groups_31 rfl ?_
    exact ev_iret rfl dX2_groups_32 h
  · replace h := h.2 c9
    refine ev_aload_n 0 dX2_groups_12 rfl ?_
    refine ev_getR (r := 3) G2 lay_1 (k := 1) rfl (Nat.le_of_ble_eq_true rfl) dX2_groups_13 w_128 ?_
    refine ev_iload_n 2 dX2_groups_16 rfl ?_
    have hb17 := h.1
    replace h := h.2
    refine ev_iald lay_3 (Nat.le_of_ble_eq_true rfl) hb17 dX2_groups_17 ?_
    refine ev_iload_n 2 dX2_groups_18 rfl ?_
    refine ev_icmp_ne 25 dX2_groups_19 (by decide) (fun c9 => ?_) (fun c9 => ?_)
    · replace h := h.2 c9
      refine ev_iinc (lv' := [(2, .int (x2 + 1)), (0, .ref 1), (1, .int x1)]) (x2 + 1) 2 dX2_groups_25 rfl rfl (Nat.le_of_ble_eq_true rfl) rfl ?_
      refine ev_goto 4 dX2_groups_28 (by decide) ?_
      refine ev_sub [1, 2, 0] rfl ?_
      exact h
    · replace h := h.1 c9
      refine ev_iinc (lv' := [(1, .int (x1 + 1)), (0, .ref 1), (2, .int x2)]) (x1 + 1) 1 dX2_groups_22 rfl rfl (Nat.le_of_ble_eq_true rfl) rfl ?_
      refine ev_iinc (lv' := [(2, .int (x2 + 1)), (1, .int (x1 + 1)), (0, .ref 1)]) (x2 + 1) 2 dX2_groups_25 rfl rfl (Nat.le_of_ble_eq_true rfl) rfl ?_
      refine ev_goto 4 dX2_groups_28 (by decide) ?_
      refine ev_sub [2, 1, 0] rfl ?_
      exact h
abbrev KX2_membersOf_4 (N : Nat) (σ : Sg) (Q : Option Value → Sg → Prop) (x1 : Int32) (x2 : Int32) (x3 : Int32) : Prop := Ev N mX2_membersOf 4 [(0, .ref 1), (1, .int x1), (2, .int x2), (3, .int x3)] [] σ Q
theorem EX2_membersOf {N : Nat} {σ : Sg} {Q : Option Value → Sg → Prop} {x1 : Int32} (h : KX2_membersOf_4 N σ Q x1 0 0) : EvM N mX2_membersOf [.ref 1, .int x1] σ Q := by
  refine ev_entry rfl (Nat.le_of_ble_eq_true rfl) (lv := [(0, .ref 1), (1, .int x1)]) rfl ?_
  refine ev_iconst 0 dX2_membersOf_0 (by decide) ?_
  refine ev_istore_n (lv' := [(2, .int 0), (0, .ref 1), (1, .int x1)]) dX2_membersOf_1 (Nat.le_of_ble_eq_true rfl) rfl ?_
  refine ev_iconst 0 dX2_membersOf_2 (by decide) ?_
  refine ev_istore_n (lv' := [(3, .int 0), (2, .int 0), (0, .ref 1), (1, .int x1)]) dX2_membersOf_3 (Nat.le_of_ble_eq_true rfl) rfl ?_
  refine ev_sub [2, 3, 1, 0] rfl ?_
  exact h
theorem BX2_membersOf_4 {N : Nat} {σ : Sg} {Q : Option Value → Sg → Prop} {x1 : Int32} {x2 : Int32} {x3 : Int32} (h : ((σ.1 1 3) ≤ x3 → Q (some (.int x2)) σ) ∧ (¬ (σ.1 1 3) ≤ x3 → vp_in x3 24 ∧ (((σ.1 3 (x3).toNatClampNeg) = x1 → KX2_membersOf_4 N σ Q x1 (x2 + 1) (x3 + 1)) ∧ (¬ (σ.1 3 (x3).toNatClampNeg) = x1 → KX2_membersOf_4 N σ Q x1 x2 (x3 + 1))))) : KX2_membersOf_4 N σ Q x1 x2 x3 := by
  refine ev_iload_n 3 dX2_membersOf_4 rfl ?_
  refine ev_aload_n 0 dX2_membersOf_5 rfl ?_
  refine ev_get G2 lay_1 (k := 3) rfl (Nat.le_of_ble_eq_true rfl) dX2_membersOf_6 w_130 ?_
  refine ev_icmp_ge 31 dX2_membersOf_9 (by decide) (fun c9 => ?_) (fun c9 => ?_)
  · replace h := h.1 c9
    refine ev_iload_n 2 dX2_membersOf_31 rfl ?_
    exact ev_iret rfl dX2_membersOf_32 h
  · replace h := h.2 c9
    refine ev_aload_n 0 dX2_membersOf_12 rfl ?_
    refine ev_getR (r := 3) G2 lay_1 (k := 1) rfl (Nat.le_of_ble_eq_true rfl) dX2_membersOf_13 w_128 ?_
    refine ev_iload_n 3 dX2_membersOf_16 rfl ?_
    have hb17 := h.1
    replace h := h.2
    refine ev_iald lay_3 (Nat.le_of_ble_eq_true rfl) hb17 dX2_membersOf_17 ?_
    refine ev_iload_n 1 dX2_membersOf_18 rfl ?_
    refine ev_icmp_ne 25 dX2_membersOf_19 (by decide) (fun c9 => ?_) (fun c9 => ?_)
    · replace h := h.2 c9
      refine ev_iinc (lv' := [(3, .int (x3 + 1)), (0, .ref 1), (1, .int x1), (2, .int x2)]) (x3 + 1) 3 dX2_membersOf_25 rfl rfl (Nat.le_of_ble_eq_true rfl) rfl ?_
      refine ev_goto 4 dX2_membersOf_28 (by decide) ?_
      refine ev_sub [1, 2, 3, 0] rfl ?_
      exact h
    · replace h := h.1 c9
      refine ev_iinc (lv' := [(2, .int (x2 + 1)), (0, .ref 1), (1, .int x1), (3, .int x3)]) (x2 + 1) 2 dX2_membersOf_22 rfl rfl (Nat.le_of_ble_eq_true rfl) rfl ?_
      refine ev_iinc (lv' := [(3, .int (x3 + 1)), (2, .int (x2 + 1)), (0, .ref 1), (1, .int x1)]) (x3 + 1) 3 dX2_membersOf_25 rfl rfl (Nat.le_of_ble_eq_true rfl) rfl ?_
      refine ev_goto 4 dX2_membersOf_28 (by decide) ?_
      refine ev_sub [2, 3, 1, 0] rfl ?_
      exact h
abbrev KX2_greatest_7 (N : Nat) (σ : Sg) (Q : Option Value → Sg → Prop) (x1 : Int32) (x2 : Int32) (x3 : Int32) : Prop := Ev (N + 1) mX2_greatest 7 [(0, .ref 1), (1, .int x1), (2, .int x2), (3, .int x3)] [] σ Q
theorem EX2_greatest {N : Nat} {σ : Sg} {Q : Option Value → Sg → Prop} (h : KX2_greatest_7 N σ Q (-4) 0 0) : EvM (N + 1) mX2_greatest [.ref 1] σ Q := by
  refine ev_entry rfl (Nat.le_of_ble_eq_true rfl) (lv := [(0, .ref 1)]) rfl ?_
  refine ev_bipush (-4) dX2_greatest_0 (by decide) ?_
  refine ev_istore_n (lv' := [(1, .int (-4)), (0, .ref 1)]) dX2_greatest_2 (Nat.le_of_ble_eq_true rfl) rfl ?_
  refine ev_iconst 0 dX2_greatest_3 (by decide) ?_
  refine ev_istore_n (lv' := [(2, .int 0), (1, .int (-4)), (0, .ref 1)]) dX2_greatest_4 (Nat.le_of_ble_eq_true rfl) rfl ?_
  refine ev_iconst 0 dX2_greatest_5 (by decide) ?_
  refine ev_istore_n (lv' := [(3, .int 0), (2, .int 0), (1, .int (-4)), (0, .ref 1)]) dX2_greatest_6 (Nat.le_of_ble_eq_true rfl) rfl ?_
  refine ev_sub [3, 2, 1, 0] rfl ?_
  exact h
theorem BX2_greatest_7 {N : Nat} {σ : Sg} {Q : Option Value → Sg → Prop} {x1 : Int32} {x2 : Int32} {x3 : Int32} (h : ((σ.1 1 3) ≤ x3 → Q (some (.int x1)) σ) ∧ (¬ (σ.1 1 3) ≤ x3 → EvM N mX2_membersOf [.ref 1, .int x3] σ (fun r9 σ1 => ∃ v1, r9 = some (.int v1) ∧ ((v1 ≤ x2 → KX2_greatest_7 N σ1 Q x1 x2 (x3 + 1)) ∧ (¬ v1 ≤ x2 → KX2_greatest_7 N σ1 Q x3 v1 (x3 + 1)))))) : KX2_greatest_7 N σ Q x1 x2 x3 := by
  refine ev_iload_n 3 dX2_greatest_7 rfl ?_
  refine ev_aload_n 0 dX2_greatest_8 rfl ?_
  refine ev_get G2 lay_1 (k := 3) rfl (Nat.le_of_ble_eq_true rfl) dX2_greatest_9 w_130 ?_
  refine ev_icmp_ge 39 dX2_greatest_12 (by decide) (fun c9 => ?_) (fun c9 => ?_)
  · replace h := h.1 c9
    refine ev_iload_n 1 dX2_greatest_39 rfl ?_
    exact ev_iret rfl dX2_greatest_40 h
  · replace h := h.2 c9
    refine ev_aload_n 0 dX2_greatest_15 rfl ?_
    refine ev_iload_n 3 dX2_greatest_16 rfl ?_
    refine ev_callV (M' := mX2_membersOf) [.int x3] vX2_membersOf G2 lay_1 dX2_greatest_17 w_494 rfl rfl (Nat.le_of_ble_eq_true rfl) h ?_
    rintro r9 σ1 ⟨v1, rfl, h⟩
    refine ev_istore (lv' := [(4, .int v1), (0, .ref 1), (1, .int x1), (2, .int x2), (3, .int x3)]) dX2_greatest_20 (Nat.le_of_ble_eq_true rfl) rfl ?_
    refine ev_iload 0 dX2_greatest_22 rfl ?_
    refine ev_iload_n 3 dX2_greatest_24 rfl ?_
    refine ev_icmp_le 33 dX2_greatest_25 (by decide) (fun c9 => ?_) (fun c9 => ?_)
    · replace h := h.1 c9
      refine ev_iinc (lv' := [(3, .int (x3 + 1)), (4, .int v1), (0, .ref 1), (1, .int x1), (2, .int x2)]) (x3 + 1) 4 dX2_greatest_33 rfl rfl (Nat.le_of_ble_eq_true rfl) rfl ?_
      refine ev_goto 7 dX2_greatest_36 (by decide) ?_
      refine ev_sub [2, 3, 4, 0] rfl ?_
      exact h
    · replace h := h.2 c9
      refine ev_iload 0 dX2_greatest_28 rfl ?_
      refine ev_istore_n (lv' := [(2, .int v1), (4, .int v1), (0, .ref 1), (1, .int x1), (3, .int x3)]) dX2_greatest_30 (Nat.le_of_ble_eq_true rfl) rfl ?_
      refine ev_iload_n 4 dX2_greatest_31 rfl ?_
      refine ev_istore_n (lv' := [(1, .int x3), (2, .int v1), (4, .int v1), (0, .ref 1), (3, .int x3)]) dX2_greatest_32 (Nat.le_of_ble_eq_true rfl) rfl ?_
      refine ev_iinc (lv' := [(3, .int (x3 + 1)), (1, .int x3), (2, .int v1), (4, .int v1), (0, .ref 1)]) (x3 + 1) 4 dX2_greatest_33 rfl rfl (Nat.le_of_ble_eq_true rfl) rfl ?_
      refine ev_goto 7 dX2_greatest_36 (by decide) ?_
      refine ev_sub [4, 1, 2, 0] rfl ?_
      exact h
abbrev KX2_leastLimit_2 (N : Nat) (σ : Sg) (Q : Option Value → Sg → Prop) (x1 : Int32) : Prop := Ev (N + 3) mX2_leastLimit 2 [(0, .ref 1), (1, .int x1)] [] σ Q
theorem EX2_leastLimit {N : Nat} {σ : Sg} {Q : Option Value → Sg → Prop} (h : KX2_leastLimit_2 N σ Q 0) : EvM (N + 3) mX2_leastLimit [.ref 1] σ Q := by
  refine ev_entry rfl (Nat.le_of_ble_eq_true rfl) (lv := [(0, .ref 1)]) rfl ?_
  refine ev_iconst 0 dX2_leastLimit_0 (by decide) ?_
  refine ev_istore_n (lv' := [(1, .int 0), (0, .ref 1)]) dX2_leastLimit_1 (Nat.le_of_ble_eq_true rfl) rfl ?_
  refine ev_sub [1, 0] rfl ?_
  exact h
theorem BX2_leastLimit_2 {N : Nat} {σ : Sg} {Q : Option Value → Sg → Prop} {x1 : Int32} (h : (12 ≤ x1 → Q (some (.int 12)) σ) ∧ (¬ 12 ≤ x1 → EvM (N + 2) mX2_group [.ref 1, .int x1, .ref 4] σ (fun r9 σ1 => r9 = none ∧ (EvM (N + 2) mX2_isOneGroup [.ref 1, .ref 4] σ1 (fun r9 σ2 => ∃ v2, r9 = some (.int v2) ∧ ((v2 = 0 → KX2_leastLimit_2 N σ2 Q (x1 + 1)) ∧ (¬ v2 = 0 → Q (some (.int x1)) σ2))))))) : KX2_leastLimit_2 N σ Q x1 := by
  refine ev_iload_n 1 dX2_leastLimit_2 rfl ?_
  refine ev_bipush 12 dX2_leastLimit_3 (by decide) ?_
  refine ev_icmp_ge 36 dX2_leastLimit_5 (by decide) (fun c9 => ?_) (fun c9 => ?_)
  · replace h := h.1 c9
    refine ev_bipush 12 dX2_leastLimit_36 (by decide) ?_
    exact ev_iret rfl dX2_leastLimit_38 h
  · replace h := h.2 c9
    refine ev_aload_n 0 dX2_leastLimit_8 rfl ?_
    refine ev_iload_n 1 dX2_leastLimit_9 rfl ?_
    refine ev_aload_n 0 dX2_leastLimit_10 rfl ?_
    refine ev_getR (r := 4) G2 lay_1 (k := 2) rfl (Nat.le_of_ble_eq_true rfl) dX2_leastLimit_11 w_129 ?_
    refine ev_callV (M' := mX2_group) [.int x1, .ref 4] vX2_group G2 lay_1 dX2_leastLimit_14 w_447 rfl rfl (Nat.le_of_ble_eq_true rfl) h ?_
    rintro r9 σ1 ⟨rfl, h⟩
    refine ev_aload_n 0 dX2_leastLimit_17 rfl ?_
    refine ev_aload_n 0 dX2_leastLimit_18 rfl ?_
    refine ev_getR (r := 4) G2 lay_1 (k := 2) rfl (Nat.le_of_ble_eq_true rfl) dX2_leastLimit_19 w_129 ?_
    refine ev_callV (M' := mX2_isOneGroup) [.ref 4] vX2_isOneGroup G2 lay_1 dX2_leastLimit_22 w_503 rfl rfl (Nat.le_of_ble_eq_true rfl) h ?_
    rintro r9 σ2 ⟨v2, rfl, h⟩
    refine ev_if_eq 30 dX2_leastLimit_25 (by decide) (fun c9 => ?_) (fun c9 => ?_)
    · replace h := h.1 c9
      refine ev_iinc (lv' := [(1, .int (x1 + 1)), (0, .ref 1)]) (x1 + 1) 1 dX2_leastLimit_30 rfl rfl (Nat.le_of_ble_eq_true rfl) rfl ?_
      refine ev_goto 2 dX2_leastLimit_33 (by decide) ?_
      refine ev_sub [1, 0] rfl ?_
      exact h
    · replace h := h.2 c9
      refine ev_iload_n 1 dX2_leastLimit_28 rfl ?_
      exact ev_iret rfl dX2_leastLimit_29 h
abbrev KX2_isOneGroup_2 (N : Nat) (σ : Sg) (Q : Option Value → Sg → Prop) (r1 : Nat) (x2 : Int32) : Prop := Ev N mX2_isOneGroup 2 [(0, .ref 1), (1, .ref r1), (2, .int x2)] [] σ Q
theorem EX2_isOneGroup {N : Nat} {σ : Sg} {Q : Option Value → Sg → Prop} {r1 : Nat} (hyr1 : lay r1 = .inl (0, 24)) (hqr1 : r1 < KC) (h : KX2_isOneGroup_2 N σ Q r1 0) : EvM N mX2_isOneGroup [.ref 1, .ref r1] σ Q := by
  refine ev_entry rfl (Nat.le_of_ble_eq_true rfl) (lv := [(0, .ref 1), (1, .ref r1)]) rfl ?_
  refine ev_iconst 0 dX2_isOneGroup_0 (by decide) ?_
  refine ev_istore_n (lv' := [(2, .int 0), (0, .ref 1), (1, .ref r1)]) dX2_isOneGroup_1 (Nat.le_of_ble_eq_true rfl) rfl ?_
  refine ev_sub [1, 2, 0] rfl ?_
  exact h
theorem BX2_isOneGroup_2 {N : Nat} {σ : Sg} {Q : Option Value → Sg → Prop} {r1 : Nat} {x2 : Int32} (hyr1 : lay r1 = .inl (0, 24)) (hqr1 : r1 < KC) (h : ((σ.1 1 3) ≤ x2 → Q (some (.int 1)) σ) ∧ (¬ (σ.1 1 3) ≤ x2 → vp_in x2 24 ∧ (((σ.1 r1 (x2).toNatClampNeg) = 0 → KX2_isOneGroup_2 N σ Q r1 (x2 + 1)) ∧ (¬ (σ.1 r1 (x2).toNatClampNeg) = 0 → Q (some (.int 0)) σ)))) : KX2_isOneGroup_2 N σ Q r1 x2 := by
  refine ev_iload_n 2 dX2_isOneGroup_2 rfl ?_
  refine ev_aload_n 0 dX2_isOneGroup_3 rfl ?_
  refine ev_get G2 lay_1 (k := 3) rfl (Nat.le_of_ble_eq_true rfl) dX2_isOneGroup_4 w_130 ?_
  refine ev_icmp_ge 24 dX2_isOneGroup_7 (by decide) (fun c9 => ?_) (fun c9 => ?_)
  · replace h := h.1 c9
    refine ev_iconst 1 dX2_isOneGroup_24 (by decide) ?_
    exact ev_zret (ty := .boolean) rfl (by rfl) dX2_isOneGroup_25 h
  · replace h := h.2 c9
    refine ev_aload_n 1 dX2_isOneGroup_10 rfl ?_
    refine ev_iload_n 2 dX2_isOneGroup_11 rfl ?_
    have hb12 := h.1
    replace h := h.2
    refine ev_iald hyr1 hqr1 hb12 dX2_isOneGroup_12 ?_
    refine ev_if_eq 18 dX2_isOneGroup_13 (by decide) (fun c9 => ?_) (fun c9 => ?_)
    · replace h := h.1 c9
      refine ev_iinc (lv' := [(2, .int (x2 + 1)), (0, .ref 1), (1, .ref r1)]) (x2 + 1) 2 dX2_isOneGroup_18 rfl rfl (Nat.le_of_ble_eq_true rfl) rfl ?_
      refine ev_goto 2 dX2_isOneGroup_21 (by decide) ?_
      refine ev_sub [1, 2, 0] rfl ?_
      exact h
    · replace h := h.2 c9
      refine ev_iconst 0 dX2_isOneGroup_16 (by decide) ?_
      exact ev_zret (ty := .boolean) rfl (by rfl) dX2_isOneGroup_17 h
abbrev KX2_group_2 (N : Nat) (σ : Sg) (Q : Option Value → Sg → Prop) (x1 : Int32) (r2 : Nat) (x3 : Int32) : Prop := Ev (N + 2) mX2_group 2 [(0, .ref 1), (1, .int x1), (2, .ref r2), (3, .int x3)] [] σ Q
abbrev KX2_group_17 (N : Nat) (σ : Sg) (Q : Option Value → Sg → Prop) (x1 : Int32) (r2 : Nat) (x3 : Int32) (x4 : Int32) : Prop := Ev (N + 2) mX2_group 17 [(0, .ref 1), (1, .int x1), (2, .ref r2), (3, .int x3), (4, .int x4)] [] σ Q
theorem EX2_group {N : Nat} {σ : Sg} {Q : Option Value → Sg → Prop} {x1 : Int32} {r2 : Nat} (hyr2 : lay r2 = .inl (0, 24)) (hqr2 : r2 < KC) (h : KX2_group_2 N σ Q x1 r2 0) : EvM (N + 2) mX2_group [.ref 1, .int x1, .ref r2] σ Q := by
  refine ev_entry rfl (Nat.le_of_ble_eq_true rfl) (lv := [(0, .ref 1), (1, .int x1), (2, .ref r2)]) rfl ?_
  refine ev_iconst 0 dX2_group_0 (by decide) ?_
  refine ev_istore_n (lv' := [(3, .int 0), (0, .ref 1), (1, .int x1), (2, .ref r2)]) dX2_group_1 (Nat.le_of_ble_eq_true rfl) rfl ?_
  refine ev_sub [1, 2, 3, 0] rfl ?_
  exact h
theorem BX2_group_2 {N : Nat} {σ : Sg} {Q : Option Value → Sg → Prop} {x1 : Int32} {r2 : Nat} {x3 : Int32} (hyr2 : lay r2 = .inl (0, 24)) (hqr2 : r2 < KC) (h : ((σ.1 1 3) ≤ x3 → Q none σ) ∧ (¬ (σ.1 1 3) ≤ x3 → vp_in x3 24 ∧ (KX2_group_17 N (u1 σ r2 (x3).toNatClampNeg x3) Q x1 r2 x3 0))) : KX2_group_2 N σ Q x1 r2 x3 := by
  refine ev_iload_n 3 dX2_group_2 rfl ?_
  refine ev_aload_n 0 dX2_group_3 rfl ?_
  refine ev_get G2 lay_1 (k := 3) rfl (Nat.le_of_ble_eq_true rfl) dX2_group_4 w_130 ?_
  refine ev_icmp_ge 63 dX2_group_7 (by decide) (fun c9 => ?_) (fun c9 => ?_)
  · replace h := h.1 c9
    exact ev_vret rfl dX2_group_63 h
  · replace h := h.2 c9
    refine ev_aload_n 2 dX2_group_10 rfl ?_
    refine ev_iload_n 3 dX2_group_11 rfl ?_
    refine ev_iload_n 3 dX2_group_12 rfl ?_
    have hb13 := h.1
    replace h := h.2
    refine ev_iast hyr2 hqr2 hb13 dX2_group_13 ?_
    refine ev_iconst 0 dX2_group_14 (by decide) ?_
    refine ev_istore (lv' := [(4, .int 0), (0, .ref 1), (1, .int x1), (2, .ref r2), (3, .int x3)]) dX2_group_15 (Nat.le_of_ble_eq_true rfl) rfl ?_
    refine ev_sub [1, 2, 3, 4, 0] rfl ?_
    exact h
theorem BX2_group_17 {N : Nat} {σ : Sg} {Q : Option Value → Sg → Prop} {x1 : Int32} {r2 : Nat} {x3 : Int32} {x4 : Int32} (hyr2 : lay r2 = .inl (0, 24)) (hqr2 : r2 < KC) (h : (x3 ≤ x4 → KX2_group_2 N σ Q x1 r2 (x3 + 1)) ∧ (¬ x3 ≤ x4 → vp_in x3 24 ∧ (vp_in x4 24 ∧ (EvM (N + 1) mJ6_bitCount_0f7a4 [.int ((σ.1 2 (x3).toNatClampNeg) ^^^ (σ.1 2 (x4).toNatClampNeg))] σ (fun r9 σ1 => ∃ v1, r9 = some (.int v1) ∧ ((x1 < v1 → KX2_group_17 N σ1 Q x1 r2 x3 (x4 + 1)) ∧ (¬ x1 < v1 → EvM (N + 1) mX2_join [.ref r2, .int x3, .int x4] σ1 (fun r9 σ2 => r9 = none ∧ (KX2_group_17 N σ2 Q x1 r2 x3 (x4 + 1)))))))))) : KX2_group_17 N σ Q x1 r2 x3 x4 := by
  refine ev_iload 4 dX2_group_17 rfl ?_
  refine ev_iload_n 3 dX2_group_19 rfl ?_
  refine ev_icmp_ge 57 dX2_group_20 (by decide) (fun c9 => ?_) (fun c9 => ?_)
  · replace h := h.1 c9
    refine ev_iinc (lv' := [(3, .int (x3 + 1)), (0, .ref 1), (1, .int x1), (2, .ref r2), (4, .int x4)]) (x3 + 1) 3 dX2_group_57 rfl rfl (Nat.le_of_ble_eq_true rfl) rfl ?_
    refine ev_goto 2 dX2_group_60 (by decide) ?_
    refine ev_sub [1, 2, 3, 0] rfl ?_
    exact h
  · replace h := h.2 c9
    refine ev_aload_n 0 dX2_group_23 rfl ?_
    refine ev_getR (r := 2) G2 lay_1 (k := 0) rfl (Nat.le_of_ble_eq_true rfl) dX2_group_24 w_127 ?_
    refine ev_iload_n 3 dX2_group_27 rfl ?_
    have hb28 := h.1
    replace h := h.2
    refine ev_iald lay_2 (Nat.le_of_ble_eq_true rfl) hb28 dX2_group_28 ?_
    refine ev_aload_n 0 dX2_group_29 rfl ?_
    refine ev_getR (r := 2) G2 lay_1 (k := 0) rfl (Nat.le_of_ble_eq_true rfl) dX2_group_30 w_127 ?_
    refine ev_iload 4 dX2_group_33 rfl ?_
    have hb35 := h.1
    replace h := h.2
    refine ev_iald lay_2 (Nat.le_of_ble_eq_true rfl) hb35 dX2_group_35 ?_
    refine ev_ixor dX2_group_36 ?_
    refine ev_callS (M' := mJ6_bitCount_0f7a4) [.int ((σ.1 2 (x3).toNatClampNeg) ^^^ (σ.1 2 (x4).toNatClampNeg))] vJ6_bitCount_0f7a4 dX2_group_37 w_451 rfl rfl (Nat.le_of_ble_eq_true rfl) h ?_
    rintro r9 σ1 ⟨v1, rfl, h⟩
    refine ev_iload_n 1 dX2_group_40 rfl ?_
    refine ev_icmp_gt 51 dX2_group_41 (by decide) (fun c9 => ?_) (fun c9 => ?_)
    · replace h := h.1 c9
      refine ev_iinc (lv' := [(4, .int (x4 + 1)), (0, .ref 1), (1, .int x1), (2, .ref r2), (3, .int x3)]) (x4 + 1) 4 dX2_group_51 rfl rfl (Nat.le_of_ble_eq_true rfl) rfl ?_
      refine ev_goto 17 dX2_group_54 (by decide) ?_
      refine ev_sub [1, 2, 3, 4, 0] rfl ?_
      exact h
    · replace h := h.2 c9
      refine ev_aload_n 2 dX2_group_44 rfl ?_
      refine ev_iload_n 3 dX2_group_45 rfl ?_
      refine ev_iload 4 dX2_group_46 rfl ?_
      refine ev_callS (M' := mX2_join) [.ref r2, .int x3, .int x4] vX2_join dX2_group_48 w_457 rfl rfl (Nat.le_of_ble_eq_true rfl) h ?_
      rintro r9 σ2 ⟨rfl, h⟩
      refine ev_iinc (lv' := [(4, .int (x4 + 1)), (0, .ref 1), (1, .int x1), (2, .ref r2), (3, .int x3)]) (x4 + 1) 4 dX2_group_51 rfl rfl (Nat.le_of_ble_eq_true rfl) rfl ?_
      refine ev_goto 17 dX2_group_54 (by decide) ?_
      refine ev_sub [1, 2, 3, 4, 0] rfl ?_
      exact h
abbrev KX2_join_24 (N : Nat) (σ : Sg) (Q : Option Value → Sg → Prop) (r0 : Nat) (x1 : Int32) (x3 : Int32) (x4 : Int32) (x5 : Int32) : Prop := Ev (N + 1) mX2_join 24 [(0, .ref r0), (1, .int x1), (3, .int x3), (4, .int x4), (5, .int x5)] [] σ Q
theorem EX2_join {N : Nat} {σ : Sg} {Q : Option Value → Sg → Prop} {r0 : Nat} {x1 : Int32} {x2 : Int32} (hyr0 : lay r0 = .inl (0, 24)) (hqr0 : r0 < KC) (h : vp_in x1 24 ∧ (vp_in x2 24 ∧ (vp_in x1 24 ∧ (vp_in x2 24 ∧ (KX2_join_24 N σ Q r0 x1 (if (σ.1 r0 (x2).toNatClampNeg) < (σ.1 r0 (x1).toNatClampNeg) then (σ.1 r0 (x2).toNatClampNeg) else (σ.1 r0 (x1).toNatClampNeg)) (if (σ.1 r0 (x1).toNatClampNeg) < (σ.1 r0 (x2).toNatClampNeg) then (σ.1 r0 (x2).toNatClampNeg) else (σ.1 r0 (x1).toNatClampNeg)) 0))))) : EvM (N + 1) mX2_join [.ref r0, .int x1, .int x2] σ Q := by
  refine ev_entry rfl (Nat.le_of_ble_eq_true rfl) (lv := [(0, .ref r0), (1, .int x1), (2, .int x2)]) rfl ?_
  refine ev_aload_n 0 dX2_join_0 rfl ?_
  refine ev_iload_n 1 dX2_join_1 rfl ?_
  have hb2 := h.1
  replace h := h.2
  refine ev_iald hyr0 hqr0 hb2 dX2_join_2 ?_
  refine ev_aload_n 0 dX2_join_3 rfl ?_
  refine ev_iload_n 2 dX2_join_4 rfl ?_
  have hb5 := h.1
  replace h := h.2
  refine ev_iald hyr0 hqr0 hb5 dX2_join_5 ?_
  refine ev_mmin dX2_join_6 w_460 ?_ (Nat.le_of_ble_eq_true rfl)
  refine ev_istore_n (lv' := [(3, .int (if (σ.1 r0 (x2).toNatClampNeg) < (σ.1 r0 (x1).toNatClampNeg) then (σ.1 r0 (x2).toNatClampNeg) else (σ.1 r0 (x1).toNatClampNeg))), (0, .ref r0), (1, .int x1), (2, .int x2)]) dX2_join_9 (Nat.le_of_ble_eq_true rfl) rfl ?_
  refine ev_aload_n 1 dX2_join_10 rfl ?_
  refine ev_iload_n 2 dX2_join_11 rfl ?_
  have hb12 := h.1
  replace h := h.2
  refine ev_iald hyr0 hqr0 hb12 dX2_join_12 ?_
  refine ev_aload_n 1 dX2_join_13 rfl ?_
  refine ev_iload_n 3 dX2_join_14 rfl ?_
  have hb15 := h.1
  replace h := h.2
  refine ev_iald hyr0 hqr0 hb15 dX2_join_15 ?_
  refine ev_mmax dX2_join_16 w_463 ?_ (Nat.le_of_ble_eq_true rfl)
  refine ev_istore (lv' := [(4, .int (if (σ.1 r0 (x1).toNatClampNeg) < (σ.1 r0 (x2).toNatClampNeg) then (σ.1 r0 (x2).toNatClampNeg) else (σ.1 r0 (x1).toNatClampNeg))), (3, .int (if (σ.1 r0 (x2).toNatClampNeg) < (σ.1 r0 (x1).toNatClampNeg) then (σ.1 r0 (x2).toNatClampNeg) else (σ.1 r0 (x1).toNatClampNeg))), (0, .ref r0), (1, .int x1), (2, .int x2)]) dX2_join_19 (Nat.le_of_ble_eq_true rfl) rfl ?_
  refine ev_iconst 0 dX2_join_21 (by decide) ?_
  refine ev_istore (lv' := [(5, .int 0), (4, .int (if (σ.1 r0 (x1).toNatClampNeg) < (σ.1 r0 (x2).toNatClampNeg) then (σ.1 r0 (x2).toNatClampNeg) else (σ.1 r0 (x1).toNatClampNeg))), (3, .int (if (σ.1 r0 (x2).toNatClampNeg) < (σ.1 r0 (x1).toNatClampNeg) then (σ.1 r0 (x2).toNatClampNeg) else (σ.1 r0 (x1).toNatClampNeg))), (0, .ref r0), (1, .int x1), (2, .int x2)]) dX2_join_22 (Nat.le_of_ble_eq_true rfl) rfl ?_
  refine ev_sub [3, 4, 2, 1, 0] rfl ?_
  exact h
theorem BX2_join_24 {N : Nat} {σ : Sg} {Q : Option Value → Sg → Prop} {r0 : Nat} {x1 : Int32} {x3 : Int32} {x4 : Int32} {x5 : Int32} (hyr0 : lay r0 = .inl (0, 24)) (hqr0 : r0 < KC) (h : (x1 < x5 → Q none σ) ∧ (¬ x1 < x5 → vp_in x5 24 ∧ (((σ.1 r0 (x5).toNatClampNeg) = x4 → vp_in x5 24 ∧ (KX2_join_24 N (u1 σ r0 (x5).toNatClampNeg x3) Q r0 x1 x3 x4 (x5 + 1))) ∧ (¬ (σ.1 r0 (x5).toNatClampNeg) = x4 → KX2_join_24 N σ Q r0 x1 x3 x4 (x5 + 1))))) : KX2_join_24 N σ Q r0 x1 x3 x4 x5 := by
  refine ev_iload 4 dX2_join_24 rfl ?_
  refine ev_iload_n 1 dX2_join_26 rfl ?_
  refine ev_icmp_gt 50 dX2_join_27 (by decide) (fun c9 => ?_) (fun c9 => ?_)
  · replace h := h.1 c9
    exact ev_vret rfl dX2_join_50 h
  · replace h := h.2 c9
    refine ev_aload_n 0 dX2_join_30 rfl ?_
    refine ev_iload 4 dX2_join_31 rfl ?_
    have hb33 := h.1
    replace h := h.2
    refine ev_iald hyr0 hqr0 hb33 dX2_join_33 ?_
    refine ev_iload 3 dX2_join_34 rfl ?_
    refine ev_icmp_ne 44 dX2_join_36 (by decide) (fun c9 => ?_) (fun c9 => ?_)
    · replace h := h.2 c9
      refine ev_iinc (lv' := [(5, .int (x5 + 1)), (0, .ref r0), (1, .int x1), (3, .int x3), (4, .int x4)]) (x5 + 1) 4 dX2_join_44 rfl rfl (Nat.le_of_ble_eq_true rfl) rfl ?_
      refine ev_goto 24 dX2_join_47 (by decide) ?_
      refine ev_sub [1, 2, 3, 4, 0] rfl ?_
      exact h
    · replace h := h.1 c9
      refine ev_aload_n 0 dX2_join_39 rfl ?_
      refine ev_iload 4 dX2_join_40 rfl ?_
      refine ev_iload_n 2 dX2_join_42 rfl ?_
      have hb43 := h.1
      replace h := h.2
      refine ev_iast hyr0 hqr0 hb43 dX2_join_43 ?_
      refine ev_iinc (lv' := [(5, .int (x5 + 1)), (0, .ref r0), (1, .int x1), (3, .int x3), (4, .int x4)]) (x5 + 1) 4 dX2_join_44 rfl rfl (Nat.le_of_ble_eq_true rfl) rfl ?_
      refine ev_goto 24 dX2_join_47 (by decide) ?_
      refine ev_sub [1, 2, 3, 4, 0] rfl ?_
      exact h
theorem EX4_areSounds {N : Nat} {σ : Sg} {Q : Option Value → Sg → Prop} {x0 : Int32} {x1 : Int32} {x2 : Int32} (h : (x0 < 1 → Q (some (.int 0)) σ) ∧ (¬ x0 < 1 → (x1 < x0 → Q (some (.int 0)) σ) ∧ (¬ x1 < x0 → (x2 < 0 → Q (some (.int 0)) σ) ∧ (¬ x2 < 0 → ((x2 >>> ((2 * x0) &&& 31)) = 0 → Q (some (.int 1)) σ) ∧ (¬ (x2 >>> ((2 * x0) &&& 31)) = 0 → Q (some (.int 0)) σ))))) : EvM N mX4_areSounds [.int x0, .int x1, .int x2] σ Q := by
  refine ev_entry rfl (Nat.le_of_ble_eq_true rfl) (lv := [(0, .int x0), (1, .int x1), (2, .int x2)]) rfl ?_
  refine ev_iload_n 0 dX4_areSounds_0 rfl ?_
  refine ev_iconst 1 dX4_areSounds_1 (by decide) ?_
  refine ev_icmp_lt 26 dX4_areSounds_2 (by decide) (fun c9 => ?_) (fun c9 => ?_)
  · replace h := h.1 c9
    refine ev_iconst 0 dX4_areSounds_26 (by decide) ?_
    exact ev_zret (ty := .boolean) rfl (by rfl) dX4_areSounds_27 h
  · replace h := h.2 c9
    refine ev_iload_n 0 dX4_areSounds_5 rfl ?_
    refine ev_iload_n 1 dX4_areSounds_6 rfl ?_
    refine ev_icmp_gt 26 dX4_areSounds_7 (by decide) (fun c9 => ?_) (fun c9 => ?_)
    · replace h := h.1 c9
      refine ev_iconst 0 dX4_areSounds_26 (by decide) ?_
      exact ev_zret (ty := .boolean) rfl (by rfl) dX4_areSounds_27 h
    · replace h := h.2 c9
      refine ev_iload_n 2 dX4_areSounds_10 rfl ?_
      refine ev_if_lt 26 dX4_areSounds_11 (by decide) (fun c9 => ?_) (fun c9 => ?_)
      · replace h := h.1 c9
        refine ev_iconst 0 dX4_areSounds_26 (by decide) ?_
        exact ev_zret (ty := .boolean) rfl (by rfl) dX4_areSounds_27 h
      · replace h := h.2 c9
        refine ev_iload_n 2 dX4_areSounds_14 rfl ?_
        refine ev_iconst 2 dX4_areSounds_15 (by decide) ?_
        refine ev_iload_n 0 dX4_areSounds_16 rfl ?_
        refine ev_imul dX4_areSounds_17 ?_
        refine ev_ishr dX4_areSounds_18 ?_
        refine ev_if_ne 26 dX4_areSounds_19 (by decide) (fun c9 => ?_) (fun c9 => ?_)
        · replace h := h.2 c9
          refine ev_iconst 0 dX4_areSounds_26 (by decide) ?_
          exact ev_zret (ty := .boolean) rfl (by rfl) dX4_areSounds_27 h
        · replace h := h.1 c9
          refine ev_iconst 1 dX4_areSounds_22 (by decide) ?_
          refine ev_goto 27 dX4_areSounds_23 (by decide) ?_
          exact ev_zret (ty := .boolean) rfl (by rfl) dX4_areSounds_27 h
abbrev KX4_add_25 (N : Nat) (σ : Sg) (Q : Option Value → Sg → Prop) (x1 : Int32) (x2 : Int32) (x3 : Int32) : Prop := Ev (N + 1) mX4_add 25 [(0, .ref 115), (1, .int x1), (2, .int x2), (3, .int x3)] [] σ Q
theorem EX4_add {N : Nat} {σ : Sg} {Q : Option Value → Sg → Prop} {x1 : Int32} {x2 : Int32} (h : EvM N mX4_areSounds [.int x1, .int 8, .int x2] σ (fun r9 σ1 => ∃ v1, r9 = some (.int v1) ∧ ((v1 = 0 → Q (some (.int (-1))) σ1) ∧ (¬ v1 = 0 → ((σ1.1 115 3) < 4 → KX4_add_25 N σ1 Q x1 x2 0) ∧ (¬ (σ1.1 115 3) < 4 → Q (some (.int (-3))) σ1))))) : EvM (N + 1) mX4_add [.ref 115, .int x1, .int x2] σ Q := by
  refine ev_entry rfl (Nat.le_of_ble_eq_true rfl) (lv := [(0, .ref 115), (1, .int x1), (2, .int x2)]) rfl ?_
  refine ev_iload_n 1 dX4_add_0 rfl ?_
  refine ev_bipush 8 dX4_add_1 (by decide) ?_
  refine ev_iload_n 2 dX4_add_3 rfl ?_
  refine ev_callS (M' := mX4_areSounds) [.int x1, .int 8, .int x2] vX4_areSounds dX4_add_4 w_817 rfl rfl (Nat.le_of_ble_eq_true rfl) h ?_
  rintro r9 σ1 ⟨v1, rfl, h⟩
  refine ev_if_ne 12 dX4_add_7 (by decide) (fun c9 => ?_) (fun c9 => ?_)
  · replace h := h.2 c9
    refine ev_aload_n 0 dX4_add_12 rfl ?_
    refine ev_get G4 lay_115 (k := 3) rfl (Nat.le_of_ble_eq_true rfl) dX4_add_13 w_287 ?_
    refine ev_iconst 4 dX4_add_16 (by decide) ?_
    refine ev_icmp_lt 23 dX4_add_17 (by decide) (fun c9 => ?_) (fun c9 => ?_)
    · replace h := h.1 c9
      refine ev_iconst 0 dX4_add_23 (by decide) ?_
      refine ev_istore_n (lv' := [(3, .int 0), (0, .ref 115), (1, .int x1), (2, .int x2)]) dX4_add_24 (Nat.le_of_ble_eq_true rfl) rfl ?_
      refine ev_sub [1, 2, 3, 0] rfl ?_
      exact h
    · replace h := h.2 c9
      refine ev_bipush (-3) dX4_add_20 (by decide) ?_
      exact ev_iret rfl dX4_add_22 h
  · replace h := h.1 c9
    refine ev_iconst (-1) dX4_add_10 (by decide) ?_
    exact ev_iret rfl dX4_add_11 h
theorem BX4_add_25 {N : Nat} {σ : Sg} {Q : Option Value → Sg → Prop} {x1 : Int32} {x2 : Int32} {x3 : Int32} (h : (x1 ≤ x3 → vp_in (σ.1 115 3) 4 ∧ (Q (some (.int (((u1 (u1 σ 121 (σ.1 115 3).toNatClampNeg x1) 115 3 (((u1 σ 121 (σ.1 115 3).toNatClampNeg x1).1 115 3) + 1)).1 115 3) - 1))) (u1 (u1 σ 121 (σ.1 115 3).toNatClampNeg x1) 115 3 (((u1 σ 121 (σ.1 115 3).toNatClampNeg x1).1 115 3) + 1)))) ∧ (¬ x1 ≤ x3 → vp_in (σ.1 115 3) 4 ∧ (vp_in x3 8 ∧ (KX4_add_25 N (u1 σ (117 + (σ.1 115 3).toNatClampNeg) (x3).toNatClampNeg ((x2 >>> ((2 * ((x1 - 1) - x3)) &&& 31)) &&& 3)) Q x1 x2 (x3 + 1))))) : KX4_add_25 N σ Q x1 x2 x3 := by
  refine ev_iload_n 3 dX4_add_25 rfl ?_
  refine ev_iload_n 1 dX4_add_26 rfl ?_
  refine ev_icmp_ge 58 dX4_add_27 (by decide) (fun c9 => ?_) (fun c9 => ?_)
  · replace h := h.1 c9
    refine ev_aload_n 0 dX4_add_58 rfl ?_
    refine ev_getR (r := 121) G4 lay_115 (k := 2) rfl (Nat.le_of_ble_eq_true rfl) dX4_add_59 w_286 ?_
    refine ev_aload_n 0 dX4_add_62 rfl ?_
    refine ev_get G4 lay_115 (k := 3) rfl (Nat.le_of_ble_eq_true rfl) dX4_add_63 w_287 ?_
    refine ev_iload_n 1 dX4_add_66 rfl ?_
    have hb67 := h.1
    replace h := h.2
    refine ev_iast lay_121 (Nat.le_of_ble_eq_true rfl) hb67 dX4_add_67 ?_
    refine ev_aload_n 0 dX4_add_68 rfl ?_
    refine ev_dup dX4_add_69 rfl ?_
    refine ev_get G4 lay_115 (k := 3) rfl (Nat.le_of_ble_eq_true rfl) dX4_add_70 w_287 ?_
    refine ev_iconst 1 dX4_add_73 (by decide) ?_
    refine ev_iadd dX4_add_74 ?_
    refine ev_put G4 lay_115 (k := 3) rfl (Nat.le_of_ble_eq_true rfl) rfl (by decide +kernel) dX4_add_75 w_287 ?_
    refine ev_aload_n 0 dX4_add_78 rfl ?_
    refine ev_get G4 lay_115 (k := 3) rfl (Nat.le_of_ble_eq_true rfl) dX4_add_79 w_287 ?_
    refine ev_iconst 1 dX4_add_82 (by decide) ?_
    refine ev_isub dX4_add_83 ?_
    exact ev_iret rfl dX4_add_84 h
  · replace h := h.2 c9
    refine ev_aload_n 0 dX4_add_30 rfl ?_
    refine ev_getR (r := 116) G4 lay_115 (k := 1) rfl (Nat.le_of_ble_eq_true rfl) dX4_add_31 w_285 ?_
    refine ev_aload_n 0 dX4_add_34 rfl ?_
    refine ev_get G4 lay_115 (k := 3) rfl (Nat.le_of_ble_eq_true rfl) dX4_add_35 w_287 ?_
    have hb38 := h.1
    replace h := h.2
    refine ev_aald (b := 117) lay_116 (Nat.le_of_ble_eq_true rfl) hb38 dX4_add_38 ?_
    refine ev_iload_n 3 dX4_add_39 rfl ?_
    refine ev_iload_n 2 dX4_add_40 rfl ?_
    refine ev_iconst 2 dX4_add_41 (by decide) ?_
    refine ev_iload_n 1 dX4_add_42 rfl ?_
    refine ev_iconst 1 dX4_add_43 (by decide) ?_
    refine ev_isub dX4_add_44 ?_
    refine ev_iload_n 3 dX4_add_45 rfl ?_
    refine ev_isub dX4_add_46 ?_
    refine ev_imul dX4_add_47 ?_
    refine ev_ishr dX4_add_48 ?_
    refine ev_iconst 3 dX4_add_49 (by decide) ?_
    refine ev_iand dX4_add_50 ?_
    have hb51 := h.1
    replace h := h.2
    refine ev_iast (layr_117 _ (Nat.not_le.mp fun q9 => hb38 (Or.inr q9))).1 (layr_117 _ (Nat.not_le.mp fun q9 => hb38 (Or.inr q9))).2 hb51 dX4_add_51 ?_
    refine ev_iinc (lv' := [(3, .int (x3 + 1)), (0, .ref 115), (1, .int x1), (2, .int x2)]) (x3 + 1) 3 dX4_add_52 rfl rfl (Nat.le_of_ble_eq_true rfl) rfl ?_
    refine ev_goto 25 dX4_add_55 (by decide) ?_
    refine ev_sub [1, 2, 3, 0] rfl ?_
    exact h
abbrev KX4_drag_44 (N : Nat) (σ : Sg) (Q : Option Value → Sg → Prop) (x1 : Int32) (x2 : Int32) (x3 : Int32) (x4 : Int32) (x5 : Int32) (x6 : Int32) (x7 : Int32) : Prop := Ev (N + 4) mX4_drag 44 [(0, .ref 115), (1, .int x1), (2, .int x2), (3, .int x3), (4, .int x4), (5, .int x5), (6, .int x6), (7, .int x7)] [] σ Q
theorem EX4_drag {N : Nat} {σ : Sg} {Q : Option Value → Sg → Prop} {x1 : Int32} {x2 : Int32} {x3 : Int32} (h : ((0 ≤ (x1).toInt ∧ (x1).toInt < (σ.1 115 3).toInt) → ((0 ≤ (x2).toInt ∧ (x2).toInt < (σ.1 5 4).toInt) → (x3 < 0 → Q (some (.int (-1))) σ) ∧ (¬ x3 < 0 → (x3 ≤ 2 → KX4_drag_44 N σ Q x1 x2 x3 0 (-4) (-4) 0) ∧ (¬ x3 ≤ 2 → Q (some (.int (-1))) σ))) ∧ (¬ (0 ≤ (x2).toInt ∧ (x2).toInt < (σ.1 5 4).toInt) → Q (some (.int (-1))) σ)) ∧ (¬ (0 ≤ (x1).toInt ∧ (x1).toInt < (σ.1 115 3).toInt) → Q (some (.int (-1))) σ)) : EvM (N + 4) mX4_drag [.ref 115, .int x1, .int x2, .int x3] σ Q := by
  refine ev_entry rfl (Nat.le_of_ble_eq_true rfl) (lv := [(0, .ref 115), (1, .int x1), (2, .int x2), (3, .int x3)]) rfl ?_
  refine ev_aload_n 0 dX4_drag_0 rfl ?_
  refine ev_iload_n 1 dX4_drag_1 rfl ?_
  refine ev_callV (M' := mX4_isName) [.int x1] vX4_isName G4 lay_115 dX4_drag_2 w_828 rfl rfl (Nat.le_of_ble_eq_true rfl) (C4_isName (Q := fun r9 s9 => σ = s9 ∧ ((r9 = some (.int 1) ∧ (0 ≤ (x1).toInt ∧ (x1).toInt < (σ.1 115 3).toInt)) ∨ (r9 = some (.int 0) ∧ ¬ (0 ≤ (x1).toInt ∧ (x1).toInt < (σ.1 115 3).toInt)))) ⟨fun c9 => ⟨rfl, Or.inl ⟨rfl, c9⟩⟩, fun c9 => ⟨rfl, Or.inr ⟨rfl, c9⟩⟩⟩) ?_
  rintro r9 s9 ⟨rfl, ⟨rfl, c9⟩ | ⟨rfl, c9⟩⟩
  · replace h := h.1 c9
    refine ev_if_eq 28 dX4_drag_5 (by decide) (fun c9 => ?_) (fun c9 => ?_)
    · exact absurd c9 (by decide)
    · refine ev_aload_n 0 dX4_drag_8 rfl ?_
      refine ev_getR (r := 5) G4 lay_115 (k := 0) rfl (Nat.le_of_ble_eq_true rfl) dX4_drag_9 w_284 ?_
      refine ev_iload_n 2 dX4_drag_12 rfl ?_
      refine ev_callV (M' := mX7_isText) [.int x2] vX7_isText G7 lay_5 dX4_drag_13 w_832 rfl rfl (Nat.le_of_ble_eq_true rfl) (C7_isText (Q := fun r9 s9 => σ = s9 ∧ ((r9 = some (.int 1) ∧ (0 ≤ (x2).toInt ∧ (x2).toInt < (σ.1 5 4).toInt)) ∨ (r9 = some (.int 0) ∧ ¬ (0 ≤ (x2).toInt ∧ (x2).toInt < (σ.1 5 4).toInt)))) ⟨fun c9 => ⟨rfl, Or.inl ⟨rfl, c9⟩⟩, fun c9 => ⟨rfl, Or.inr ⟨rfl, c9⟩⟩⟩) ?_
      rintro r9 s9 ⟨rfl, ⟨rfl, c9⟩ | ⟨rfl, c9⟩⟩
      · replace h := h.1 c9
        refine ev_if_eq 28 dX4_drag_16 (by decide) (fun c9 => ?_) (fun c9 => ?_)
        · exact absurd c9 (by decide)
        · refine ev_iload_n 3 dX4_drag_19 rfl ?_
          refine ev_if_lt 28 dX4_drag_20 (by decide) (fun c9 => ?_) (fun c9 => ?_)
          · replace h := h.1 c9
            refine ev_iconst (-1) dX4_drag_28 (by decide) ?_
            exact ev_iret rfl dX4_drag_29 h
          · replace h := h.2 c9
            refine ev_iload_n 3 dX4_drag_23 rfl ?_
            refine ev_iconst 2 dX4_drag_24 (by decide) ?_
            refine ev_icmp_le 30 dX4_drag_25 (by decide) (fun c9 => ?_) (fun c9 => ?_)
            · replace h := h.1 c9
              refine ev_iconst 0 dX4_drag_30 (by decide) ?_
              refine ev_istore (lv' := [(4, .int 0), (0, .ref 115), (1, .int x1), (2, .int x2), (3, .int x3)]) dX4_drag_31 (Nat.le_of_ble_eq_true rfl) rfl ?_
              refine ev_bipush (-4) dX4_drag_33 (by decide) ?_
              refine ev_istore (lv' := [(5, .int (-4)), (4, .int 0), (0, .ref 115), (1, .int x1), (2, .int x2), (3, .int x3)]) dX4_drag_35 (Nat.le_of_ble_eq_true rfl) rfl ?_
              refine ev_bipush (-4) dX4_drag_37 (by decide) ?_
              refine ev_istore (lv' := [(6, .int (-4)), (5, .int (-4)), (4, .int 0), (0, .ref 115), (1, .int x1), (2, .int x2), (3, .int x3)]) dX4_drag_39 (Nat.le_of_ble_eq_true rfl) rfl ?_
              refine ev_iconst 0 dX4_drag_41 (by decide) ?_
              refine ev_istore (lv' := [(7, .int 0), (6, .int (-4)), (5, .int (-4)), (4, .int 0), (0, .ref 115), (1, .int x1), (2, .int x2), (3, .int x3)]) dX4_drag_42 (Nat.le_of_ble_eq_true rfl) rfl ?_
              refine ev_sub [4, 5, 6, 7, 3, 2, 1, 0] rfl ?_
              exact h
            · replace h := h.2 c9
              refine ev_iconst (-1) dX4_drag_28 (by decide) ?_
              exact ev_iret rfl dX4_drag_29 h
      · replace h := h.2 c9
        refine ev_if_eq 28 dX4_drag_16 (by decide) (fun c9 => ?_) (fun c9 => ?_)
        · refine ev_iconst (-1) dX4_drag_28 (by decide) ?_
          exact ev_iret rfl dX4_drag_29 h
        · exact absurd c9 (by decide)
  · replace h := h.2 c9
    refine ev_if_eq 28 dX4_drag_5 (by decide) (fun c9 => ?_) (fun c9 => ?_)
    · refine ev_iconst (-1) dX4_drag_28 (by decide) ?_
      exact ev_iret rfl dX4_drag_29 h
    · exact absurd c9 (by decide)
theorem BX4_drag_44 {N : Nat} {σ : Sg} {Q : Option Value → Sg → Prop} {x1 : Int32} {x2 : Int32} {x3 : Int32} {x4 : Int32} {x5 : Int32} {x6 : Int32} {x7 : Int32} (h : EvM (N + 3) mX7_lengthOf [.ref 5, .int x2] σ (fun r9 σ1 => ∃ v1, r9 = some (.int v1) ∧ ((v1 ≤ x7 → (x3 = 0 → Q (some (.int x4)) σ1) ∧ (¬ x3 = 0 → (x3 = 1 → Q (some (.int x5)) σ1) ∧ (¬ x3 = 1 → Q (some (.int x6)) σ1))) ∧ (¬ v1 ≤ x7 → EvM (N + 3) mX4_fits [.ref 115, .int x1, .int x2, .int x7] σ1 (fun r9 σ2 => ∃ v2, r9 = some (.int v2) ∧ ((v2 = 0 → KX4_drag_44 N σ2 Q x1 x2 x3 x4 x5 x6 (x7 + 1)) ∧ (¬ v2 = 0 → (x4 = 0 → KX4_drag_44 N σ2 Q x1 x2 x3 (x4 + 1) x7 x7 (x7 + 1)) ∧ (¬ x4 = 0 → KX4_drag_44 N σ2 Q x1 x2 x3 (x4 + 1) x5 x7 (x7 + 1))))))))) : KX4_drag_44 N σ Q x1 x2 x3 x4 x5 x6 x7 := by
  refine ev_iload 7 dX4_drag_44 rfl ?_
  refine ev_aload_n 0 dX4_drag_46 rfl ?_
  refine ev_getR (r := 5) G4 lay_115 (k := 0) rfl (Nat.le_of_ble_eq_true rfl) dX4_drag_47 w_284 ?_
  refine ev_iload_n 2 dX4_drag_50 rfl ?_
  refine ev_callV (M' := mX7_lengthOf) [.int x2] vX7_lengthOf G7 lay_5 dX4_drag_51 w_833 rfl rfl (Nat.le_of_ble_eq_true rfl) h ?_
  rintro r9 σ1 ⟨v1, rfl, h⟩
  refine ev_icmp_ge 93 dX4_drag_54 (by decide) (fun c9 => ?_) (fun c9 => ?_)
  · replace h := h.1 c9
    refine ev_iload_n 3 dX4_drag_93 rfl ?_
    refine ev_if_ne 100 dX4_drag_94 (by decide) (fun c9 => ?_) (fun c9 => ?_)
    · replace h := h.2 c9
      refine ev_iload_n 3 dX4_drag_100 rfl ?_
      refine ev_iconst 1 dX4_drag_101 (by decide) ?_
      refine ev_icmp_ne 110 dX4_drag_102 (by decide) (fun c9 => ?_) (fun c9 => ?_)
      · replace h := h.2 c9
        refine ev_iload 6 dX4_drag_110 rfl ?_
        exact ev_iret rfl dX4_drag_112 h
      · replace h := h.1 c9
        refine ev_iload 5 dX4_drag_105 rfl ?_
        refine ev_goto 112 dX4_drag_107 (by decide) ?_
        exact ev_iret rfl dX4_drag_112 h
    · replace h := h.1 c9
      refine ev_iload 4 dX4_drag_97 rfl ?_
      exact ev_iret rfl dX4_drag_99 h
  · replace h := h.2 c9
    refine ev_aload_n 0 dX4_drag_57 rfl ?_
    refine ev_iload_n 1 dX4_drag_58 rfl ?_
    refine ev_iload_n 2 dX4_drag_59 rfl ?_
    refine ev_iload 7 dX4_drag_60 rfl ?_
    refine ev_callV (M' := mX4_fits) [.int x1, .int x2, .int x7] vX4_fits G4 lay_115 dX4_drag_62 w_834 rfl rfl (Nat.le_of_ble_eq_true rfl) h ?_
    rintro r9 σ2 ⟨v2, rfl, h⟩
    refine ev_if_ne 71 dX4_drag_65 (by decide) (fun c9 => ?_) (fun c9 => ?_)
    · replace h := h.2 c9
      refine ev_iload 4 dX4_drag_71 rfl ?_
      refine ev_if_ne 80 dX4_drag_73 (by decide) (fun c9 => ?_) (fun c9 => ?_)
      · replace h := h.2 c9
        refine ev_iload 7 dX4_drag_80 rfl ?_
        refine ev_istore (lv' := [(6, .int x7), (0, .ref 115), (1, .int x1), (2, .int x2), (3, .int x3), (4, .int x4), (5, .int x5), (7, .int x7)]) dX4_drag_82 (Nat.le_of_ble_eq_true rfl) rfl ?_
        refine ev_iinc (lv' := [(4, .int (x4 + 1)), (6, .int x7), (0, .ref 115), (1, .int x1), (2, .int x2), (3, .int x3), (5, .int x5), (7, .int x7)]) (x4 + 1) 5 dX4_drag_84 rfl rfl (Nat.le_of_ble_eq_true rfl) rfl ?_
        refine ev_iinc (lv' := [(7, .int (x7 + 1)), (4, .int (x4 + 1)), (6, .int x7), (0, .ref 115), (1, .int x1), (2, .int x2), (3, .int x3), (5, .int x5)]) (x7 + 1) 7 dX4_drag_87 rfl rfl (Nat.le_of_ble_eq_true rfl) rfl ?_
        refine ev_goto 44 dX4_drag_90 (by decide) ?_
        refine ev_sub [3, 4, 5, 6, 1, 7, 2, 0] rfl ?_
        exact h
      · replace h := h.1 c9
        refine ev_iload 7 dX4_drag_76 rfl ?_
        refine ev_istore (lv' := [(5, .int x7), (0, .ref 115), (1, .int x1), (2, .int x2), (3, .int x3), (4, .int x4), (6, .int x6), (7, .int x7)]) dX4_drag_78 (Nat.le_of_ble_eq_true rfl) rfl ?_
        refine ev_iload 7 dX4_drag_80 rfl ?_
        refine ev_istore (lv' := [(6, .int x7), (5, .int x7), (0, .ref 115), (1, .int x1), (2, .int x2), (3, .int x3), (4, .int x4), (7, .int x7)]) dX4_drag_82 (Nat.le_of_ble_eq_true rfl) rfl ?_
        refine ev_iinc (lv' := [(4, .int (x4 + 1)), (6, .int x7), (5, .int x7), (0, .ref 115), (1, .int x1), (2, .int x2), (3, .int x3), (7, .int x7)]) (x4 + 1) 6 dX4_drag_84 rfl rfl (Nat.le_of_ble_eq_true rfl) rfl ?_
        refine ev_iinc (lv' := [(7, .int (x7 + 1)), (4, .int (x4 + 1)), (6, .int x7), (5, .int x7), (0, .ref 115), (1, .int x1), (2, .int x2), (3, .int x3)]) (x7 + 1) 7 dX4_drag_87 rfl rfl (Nat.le_of_ble_eq_true rfl) rfl ?_
        refine ev_goto 44 dX4_drag_90 (by decide) ?_
        refine ev_sub [4, 5, 6, 7, 1, 3, 2, 0] rfl ?_
        exact h
    · replace h := h.1 c9
      refine ev_goto 87 dX4_drag_68 (by decide) ?_
      refine ev_iinc (lv' := [(7, .int (x7 + 1)), (0, .ref 115), (1, .int x1), (2, .int x2), (3, .int x3), (4, .int x4), (5, .int x5), (6, .int x6)]) (x7 + 1) 7 dX4_drag_87 rfl rfl (Nat.le_of_ble_eq_true rfl) rfl ?_
      refine ev_goto 44 dX4_drag_90 (by decide) ?_
      refine ev_sub [1, 2, 3, 4, 5, 6, 7, 0] rfl ?_
      exact h
abbrev KX4_pairs_47 (N : Nat) (σ : Sg) (Q : Option Value → Sg → Prop) (x1 : Int32) (x2 : Int32) (x3 : Int32) (x4 : Int32) (x5 : Int32) (x6 : Int32) : Prop := Ev (N + 4) mX4_pairs 47 [(0, .ref 115), (1, .int x1), (2, .int x2), (3, .int x3), (4, .int x4), (5, .int x5), (6, .int x6)] [] σ Q
abbrev KX4_pairs_77 (N : Nat) (σ : Sg) (Q : Option Value → Sg → Prop) (x1 : Int32) (x2 : Int32) (x3 : Int32) (x4 : Int32) (x5 : Int32) (x6 : Int32) (x7 : Int32) : Prop := Ev (N + 4) mX4_pairs 77 [(0, .ref 115), (1, .int x1), (2, .int x2), (3, .int x3), (4, .int x4), (5, .int x5), (6, .int x6), (7, .int x7)] [] σ Q
theorem EX4_pairs {N : Nat} {σ : Sg} {Q : Option Value → Sg → Prop} {x1 : Int32} {x2 : Int32} {x3 : Int32} {x4 : Int32} (h : ((0 ≤ (x1).toInt ∧ (x1).toInt < (σ.1 115 3).toInt) → ((0 ≤ (x3).toInt ∧ (x3).toInt < (σ.1 115 3).toInt) → ((0 ≤ (x2).toInt ∧ (x2).toInt < (σ.1 5 4).toInt) → ((0 ≤ (x4).toInt ∧ (x4).toInt < (σ.1 5 4).toInt) → KX4_pairs_47 N σ Q x1 x2 x3 x4 0 0) ∧ (¬ (0 ≤ (x4).toInt ∧ (x4).toInt < (σ.1 5 4).toInt) → Q (some (.int (-1))) σ)) ∧ (¬ (0 ≤ (x2).toInt ∧ (x2).toInt < (σ.1 5 4).toInt) → Q (some (.int (-1))) σ)) ∧ (¬ (0 ≤ (x3).toInt ∧ (x3).toInt < (σ.1 115 3).toInt) → Q (some (.int (-1))) σ)) ∧ (¬ (0 ≤ (x1).toInt ∧ (x1).toInt < (σ.1 115 3).toInt) → Q (some (.int (-1))) σ)) : EvM (N + 4) mX4_pairs [.ref 115, .int x1, .int x2, .int x3, .int x4] σ Q := by
  refine ev_entry rfl (Nat.le_of_ble_eq_true rfl) (lv := [(0, .ref 115), (1, .int x1), (2, .int x2), (3, .int x3), (4, .int x4)]) rfl ?_
  refine ev_aload_n 0 dX4_pairs_0 rfl ?_
  refine ev_iload_n 1 dX4_pairs_1 rfl ?_
  refine ev_callV (M' := mX4_isName) [.int x1] vX4_isName G4 lay_115 dX4_pairs_2 w_828 rfl rfl (Nat.le_of_ble_eq_true rfl) (C4_isName (Q := fun r9 s9 => σ = s9 ∧ ((r9 = some (.int 1) ∧ (0 ≤ (x1).toInt ∧ (x1).toInt < (σ.1 115 3).toInt)) ∨ (r9 = some (.int 0) ∧ ¬ (0 ≤ (x1).toInt ∧ (x1).toInt < (σ.1 115 3).toInt)))) ⟨fun c9 => ⟨rfl, Or.inl ⟨rfl, c9⟩⟩, fun c9 => ⟨rfl, Or.inr ⟨rfl, c9⟩⟩⟩) ?_
  rintro r9 s9 ⟨rfl, ⟨rfl, c9⟩ | ⟨rfl, c9⟩⟩
  · replace h := h.1 c9
    refine ev_if_eq 39 dX4_pairs_5 (by decide) (fun c9 => ?_) (fun c9 => ?_)
    · exact absurd c9 (by decide)
    · refine ev_aload_n 0 dX4_pairs_8 rfl ?_
      refine ev_iload_n 3 dX4_pairs_9 rfl ?_
      refine ev_callV (M' := mX4_isName) [.int x3] vX4_isName G4 lay_115 dX4_pairs_10 w_828 rfl rfl (Nat.le_of_ble_eq_true rfl) (C4_isName (Q := fun r9 s9 => σ = s9 ∧ ((r9 = some (.int 1) ∧ (0 ≤ (x3).toInt ∧ (x3).toInt < (σ.1 115 3).toInt)) ∨ (r9 = some (.int 0) ∧ ¬ (0 ≤ (x3).toInt ∧ (x3).toInt < (σ.1 115 3).toInt)))) ⟨fun c9 => ⟨rfl, Or.inl ⟨rfl, c9⟩⟩, fun c9 => ⟨rfl, Or.inr ⟨rfl, c9⟩⟩⟩) ?_
      rintro r9 s9 ⟨rfl, ⟨rfl, c9⟩ | ⟨rfl, c9⟩⟩
      · replace h := h.1 c9
        refine ev_if_eq 39 dX4_pairs_13 (by decide) (fun c9 => ?_) (fun c9 => ?_)
        · exact absurd c9 (by decide)
        · refine ev_aload_n 0 dX4_pairs_16 rfl ?_
          refine ev_getR (r := 5) G4 lay_115 (k := 0) rfl (Nat.le_of_ble_eq_true rfl) dX4_pairs_17 w_284 ?_
          refine ev_iload_n 2 dX4_pairs_20 rfl ?_
          refine ev_callV (M' := mX7_isText) [.int x2] vX7_isText G7 lay_5 dX4_pairs_21 w_832 rfl rfl (Nat.le_of_ble_eq_true rfl) (C7_isText (Q := fun r9 s9 => σ = s9 ∧ ((r9 = some (.int 1) ∧ (0 ≤ (x2).toInt ∧ (x2).toInt < (σ.1 5 4).toInt)) ∨ (r9 = some (.int 0) ∧ ¬ (0 ≤ (x2).toInt ∧ (x2).toInt < (σ.1 5 4).toInt)))) ⟨fun c9 => ⟨rfl, Or.inl ⟨rfl, c9⟩⟩, fun c9 => ⟨rfl, Or.inr ⟨rfl, c9⟩⟩⟩) ?_
          rintro r9 s9 ⟨rfl, ⟨rfl, c9⟩ | ⟨rfl, c9⟩⟩
          · replace h := h.1 c9
            refine ev_if_eq 39 dX4_pairs_24 (by decide) (fun c9 => ?_) (fun c9 => ?_)
            · exact absurd c9 (by decide)
            · refine ev_aload_n 0 dX4_pairs_27 rfl ?_
              refine ev_getR (r := 5) G4 lay_115 (k := 0) rfl (Nat.le_of_ble_eq_true rfl) dX4_pairs_28 w_284 ?_
              refine ev_iload 4 dX4_pairs_31 rfl ?_
              refine ev_callV (M' := mX7_isText) [.int x4] vX7_isText G7 lay_5 dX4_pairs_33 w_832 rfl rfl (Nat.le_of_ble_eq_true rfl) (C7_isText (Q := fun r9 s9 => σ = s9 ∧ ((r9 = some (.int 1) ∧ (0 ≤ (x4).toInt ∧ (x4).toInt < (σ.1 5 4).toInt)) ∨ (r9 = some (.int 0) ∧ ¬ (0 ≤ (x4).toInt ∧ (x4).toInt < (σ.1 5 4).toInt)))) ⟨fun c9 => ⟨rfl, Or.inl ⟨rfl, c9⟩⟩, fun c9 => ⟨rfl, Or.inr ⟨rfl, c9⟩⟩⟩) ?_
              rintro r9 s9 ⟨rfl, ⟨rfl, c9⟩ | ⟨rfl, c9⟩⟩
              · replace h := h.1 c9
                refine ev_if_ne 41 dX4_pairs_36 (by decide) (fun c9 => ?_) (fun c9 => ?_)
                · refine ev_iconst 0 dX4_pairs_41 (by decide) ?_
                  refine ev_istore (lv' := [(5, .int 0), (0, .ref 115), (1, .int x1), (2, .int x2), (3, .int x3), (4, .int x4)]) dX4_pairs_42 (Nat.le_of_ble_eq_true rfl) rfl ?_
                  refine ev_iconst 0 dX4_pairs_44 (by decide) ?_
                  refine ev_istore (lv' := [(6, .int 0), (5, .int 0), (0, .ref 115), (1, .int x1), (2, .int x2), (3, .int x3), (4, .int x4)]) dX4_pairs_45 (Nat.le_of_ble_eq_true rfl) rfl ?_
                  refine ev_sub [2, 3, 4, 5, 6, 1, 0] rfl ?_
                  exact h
                · exact absurd c9 (by decide)
              · replace h := h.2 c9
                refine ev_if_ne 41 dX4_pairs_36 (by decide) (fun c9 => ?_) (fun c9 => ?_)
                · exact absurd c9 (by decide)
                · refine ev_iconst (-1) dX4_pairs_39 (by decide) ?_
                  exact ev_iret rfl dX4_pairs_40 h
          · replace h := h.2 c9
            refine ev_if_eq 39 dX4_pairs_24 (by decide) (fun c9 => ?_) (fun c9 => ?_)
            · refine ev_iconst (-1) dX4_pairs_39 (by decide) ?_
              exact ev_iret rfl dX4_pairs_40 h
            · exact absurd c9 (by decide)
      · replace h := h.2 c9
        refine ev_if_eq 39 dX4_pairs_13 (by decide) (fun c9 => ?_) (fun c9 => ?_)
        · refine ev_iconst (-1) dX4_pairs_39 (by decide) ?_
          exact ev_iret rfl dX4_pairs_40 h
        · exact absurd c9 (by decide)
  · replace h := h.2 c9
    refine ev_if_eq 39 dX4_pairs_5 (by decide) (fun c9 => ?_) (fun c9 => ?_)
    · refine ev_iconst (-1) dX4_pairs_39 (by decide) ?_
      exact ev_iret rfl dX4_pairs_40 h
    · exact absurd c9 (by decide)
theorem BX4_pairs_47 {N : Nat} {σ : Sg} {Q : Option Value → Sg → Prop} {x1 : Int32} {x2 : Int32} {x3 : Int32} {x4 : Int32} {x5 : Int32} {x6 : Int32} (h : EvM (N + 3) mX7_lengthOf [.ref 5, .int x2] σ (fun r9 σ1 => ∃ v1, r9 = some (.int v1) ∧ ((v1 ≤ x6 → Q (some (.int x5)) σ1) ∧ (¬ v1 ≤ x6 → EvM (N + 3) mX4_fits [.ref 115, .int x1, .int x2, .int x6] σ1 (fun r9 σ2 => ∃ v2, r9 = some (.int v2) ∧ ((v2 = 0 → KX4_pairs_47 N σ2 Q x1 x2 x3 x4 x5 (x6 + 1)) ∧ (¬ v2 = 0 → KX4_pairs_77 N σ2 Q x1 x2 x3 x4 x5 x6 0))))))) : KX4_pairs_47 N σ Q x1 x2 x3 x4 x5 x6 := by
  refine ev_iload 6 dX4_pairs_47 rfl ?_
  refine ev_aload_n 0 dX4_pairs_49 rfl ?_
  refine ev_getR (r := 5) G4 lay_115 (k := 0) rfl (Nat.le_of_ble_eq_true rfl) dX4_pairs_50 w_284 ?_
  refine ev_iload_n 2 dX4_pairs_53 rfl ?_
  refine ev_callV (M' := mX7_lengthOf) [.int x2] vX7_lengthOf G7 lay_5 dX4_pairs_54 w_833 rfl rfl (Nat.le_of_ble_eq_true rfl) h ?_
  rintro r9 σ1 ⟨v1, rfl, h⟩
  refine ev_icmp_ge 134 dX4_pairs_57 (by decide) (fun c9 => ?_) (fun c9 => ?_)
  · replace h := h.1 c9
    refine ev_iload 5 dX4_pairs_134 rfl ?_
    exact ev_iret rfl dX4_pairs_136 h
  · replace h := h.2 c9
    refine ev_aload_n 0 dX4_pairs_60 rfl ?_
    refine ev_iload_n 1 dX4_pairs_61 rfl ?_
    refine ev_iload_n 2 dX4_pairs_62 rfl ?_
    refine ev_iload 6 dX4_pairs_63 rfl ?_
    refine ev_callV (M' := mX4_fits) [.int x1, .int x2, .int x6] vX4_fits G4 lay_115 dX4_pairs_65 w_834 rfl rfl (Nat.le_of_ble_eq_true rfl) h ?_
    rintro r9 σ2 ⟨v2, rfl, h⟩
    refine ev_if_ne 74 dX4_pairs_68 (by decide) (fun c9 => ?_) (fun c9 => ?_)
    · replace h := h.2 c9
      refine ev_iconst 0 dX4_pairs_74 (by decide) ?_
      refine ev_istore (lv' := [(7, .int 0), (0, .ref 115), (1, .int x1), (2, .int x2), (3, .int x3), (4, .int x4), (5, .int x5), (6, .int x6)]) dX4_pairs_75 (Nat.le_of_ble_eq_true rfl) rfl ?_
      refine ev_sub [1, 2, 3, 4, 5, 6, 7, 0] rfl ?_
      exact h
    · replace h := h.1 c9
      refine ev_goto 128 dX4_pairs_71 (by decide) ?_
      refine ev_iinc (lv' := [(6, .int (x6 + 1)), (0, .ref 115), (1, .int x1), (2, .int x2), (3, .int x3), (4, .int x4), (5, .int x5)]) (x6 + 1) 6 dX4_pairs_128 rfl rfl (Nat.le_of_ble_eq_true rfl) rfl ?_
      refine ev_goto 47 dX4_pairs_131 (by decide) ?_
      refine ev_sub [1, 2, 3, 4, 5, 6, 0] rfl ?_
      exact h
theorem BX4_pairs_77 {N : Nat} {σ : Sg} {Q : Option Value → Sg → Prop} {x1 : Int32} {x2 : Int32} {x3 : Int32} {x4 : Int32} {x5 : Int32} {x6 : Int32} {x7 : Int32} (h : EvM (N + 3) mX7_lengthOf [.ref 5, .int x4] σ (fun r9 σ3 => ∃ v3, r9 = some (.int v3) ∧ ((v3 ≤ x7 → KX4_pairs_47 N σ3 Q x1 x2 x3 x4 x5 (x6 + 1)) ∧ (¬ v3 ≤ x7 → EvM (N + 3) mX4_fits [.ref 115, .int x3, .int x4, .int x7] σ3 (fun r9 σ4 => ∃ v4, r9 = some (.int v4) ∧ ((v4 = 0 → KX4_pairs_77 N σ4 Q x1 x2 x3 x4 x5 x6 (x7 + 1)) ∧ (¬ v4 = 0 → EvM (N + 3) mX4_agree [.ref 115, .int x1, .int x2, .int x6, .int x3, .int x4, .int x7] σ4 (fun r9 σ5 => ∃ v5, r9 = some (.int v5) ∧ ((v5 = 0 → KX4_pairs_77 N σ5 Q x1 x2 x3 x4 x5 x6 (x7 + 1)) ∧ (¬ v5 = 0 → KX4_pairs_77 N σ5 Q x1 x2 x3 x4 (x5 + 1) x6 (x7 + 1))))))))))) : KX4_pairs_77 N σ Q x1 x2 x3 x4 x5 x6 x7 := by
  refine ev_iload 7 dX4_pairs_77 rfl ?_
  refine ev_aload_n 0 dX4_pairs_79 rfl ?_
  refine ev_getR (r := 5) G4 lay_115 (k := 0) rfl (Nat.le_of_ble_eq_true rfl) dX4_pairs_80 w_284 ?_
  refine ev_iload 4 dX4_pairs_83 rfl ?_
  refine ev_callV (M' := mX7_lengthOf) [.int x4] vX7_lengthOf G7 lay_5 dX4_pairs_85 w_833 rfl rfl (Nat.le_of_ble_eq_true rfl) h ?_
  rintro r9 σ3 ⟨v3, rfl, h⟩
  refine ev_icmp_ge 128 dX4_pairs_88 (by decide) (fun c9 => ?_) (fun c9 => ?_)
  · replace h := h.1 c9
    refine ev_iinc (lv' := [(6, .int (x6 + 1)), (0, .ref 115), (1, .int x1), (2, .int x2), (3, .int x3), (4, .int x4), (5, .int x5), (7, .int x7)]) (x6 + 1) 6 dX4_pairs_128 rfl rfl (Nat.le_of_ble_eq_true rfl) rfl ?_
    refine ev_goto 47 dX4_pairs_131 (by decide) ?_
    refine ev_sub [1, 2, 3, 4, 5, 6, 0] rfl ?_
    exact h
  · replace h := h.2 c9
    refine ev_aload_n 0 dX4_pairs_91 rfl ?_
    refine ev_iload_n 3 dX4_pairs_92 rfl ?_
    refine ev_iload 4 dX4_pairs_93 rfl ?_
    refine ev_iload 7 dX4_pairs_95 rfl ?_
    refine ev_callV (M' := mX4_fits) [.int x3, .int x4, .int x7] vX4_fits G4 lay_115 dX4_pairs_97 w_834 rfl rfl (Nat.le_of_ble_eq_true rfl) h ?_
    rintro r9 σ4 ⟨v4, rfl, h⟩
    refine ev_if_eq 122 dX4_pairs_100 (by decide) (fun c9 => ?_) (fun c9 => ?_)
    · replace h := h.1 c9
      refine ev_iinc (lv' := [(7, .int (x7 + 1)), (0, .ref 115), (1, .int x1), (2, .int x2), (3, .int x3), (4, .int x4), (5, .int x5), (6, .int x6)]) (x7 + 1) 7 dX4_pairs_122 rfl rfl (Nat.le_of_ble_eq_true rfl) rfl ?_
      refine ev_goto 77 dX4_pairs_125 (by decide) ?_
      refine ev_sub [1, 2, 3, 4, 5, 6, 7, 0] rfl ?_
      exact h
    · replace h := h.2 c9
      refine ev_aload_n 0 dX4_pairs_103 rfl ?_
      refine ev_iload_n 1 dX4_pairs_104 rfl ?_
      refine ev_iload_n 2 dX4_pairs_105 rfl ?_
      refine ev_iload 6 dX4_pairs_106 rfl ?_
      refine ev_iload_n 3 dX4_pairs_108 rfl ?_
      refine ev_iload 4 dX4_pairs_109 rfl ?_
      refine ev_iload 7 dX4_pairs_111 rfl ?_
      refine ev_callV (M' := mX4_agree) [.int x1, .int x2, .int x6, .int x3, .int x4, .int x7] vX4_agree G4 lay_115 dX4_pairs_113 w_839 rfl rfl (Nat.le_of_ble_eq_true rfl) h ?_
      rintro r9 σ5 ⟨v5, rfl, h⟩
      refine ev_if_eq 122 dX4_pairs_116 (by decide) (fun c9 => ?_) (fun c9 => ?_)
      · replace h := h.1 c9
        refine ev_iinc (lv' := [(7, .int (x7 + 1)), (0, .ref 115), (1, .int x1), (2, .int x2), (3, .int x3), (4, .int x4), (5, .int x5), (6, .int x6)]) (x7 + 1) 7 dX4_pairs_122 rfl rfl (Nat.le_of_ble_eq_true rfl) rfl ?_
        refine ev_goto 77 dX4_pairs_125 (by decide) ?_
        refine ev_sub [1, 2, 3, 4, 5, 6, 7, 0] rfl ?_
        exact h
      · replace h := h.2 c9
        refine ev_iinc (lv' := [(5, .int (x5 + 1)), (0, .ref 115), (1, .int x1), (2, .int x2), (3, .int x3), (4, .int x4), (6, .int x6), (7, .int x7)]) (x5 + 1) 5 dX4_pairs_119 rfl rfl (Nat.le_of_ble_eq_true rfl) rfl ?_
        refine ev_iinc (lv' := [(7, .int (x7 + 1)), (5, .int (x5 + 1)), (0, .ref 115), (1, .int x1), (2, .int x2), (3, .int x3), (4, .int x4), (6, .int x6)]) (x7 + 1) 7 dX4_pairs_122 rfl rfl (Nat.le_of_ble_eq_true rfl) rfl ?_
        refine ev_goto 77 dX4_pairs_125 (by decide) ?_
        refine ev_sub [2, 3, 4, 5, 6, 1, 7, 0] rfl ?_
        exact h
abbrev KX4_fits_3 (N : Nat) (σ : Sg) (Q : Option Value → Sg → Prop) (x1 : Int32) (x2 : Int32) (x3 : Int32) (x4 : Int32) : Prop := Ev (N + 3) mX4_fits 3 [(0, .ref 115), (1, .int x1), (2, .int x2), (3, .int x3), (4, .int x4)] [] σ Q
theorem EX4_fits {N : Nat} {σ : Sg} {Q : Option Value → Sg → Prop} {x1 : Int32} {x2 : Int32} {x3 : Int32} (h : KX4_fits_3 N σ Q x1 x2 x3 0) : EvM (N + 3) mX4_fits [.ref 115, .int x1, .int x2, .int x3] σ Q := by
  refine ev_entry rfl (Nat.le_of_ble_eq_true rfl) (lv := [(0, .ref 115), (1, .int x1), (2, .int x2), (3, .int x3)]) rfl ?_
  refine ev_iconst 0 dX4_fits_0 (by decide) ?_
  refine ev_istore (lv' := [(4, .int 0), (0, .ref 115), (1, .int x1), (2, .int x2), (3, .int x3)]) dX4_fits_1 (Nat.le_of_ble_eq_true rfl) rfl ?_
  refine ev_sub [1, 2, 3, 4, 0] rfl ?_
  exact h
theorem BX4_fits_3 {N : Nat} {σ : Sg} {Q : Option Value → Sg → Prop} {x1 : Int32} {x2 : Int32} {x3 : Int32} {x4 : Int32} (h : vp_in x1 4 ∧ (((σ.1 121 (x1).toNatClampNeg) ≤ x4 → EvM (N + 2) mX4_agree [.ref 115, .int x1, .int x2, .int x3, .int x1, .int x2, .int x3] σ (fun r9 σ1 => ∃ v1, r9 = some (.int v1) ∧ (narrow .boolean (.int v1) = .int v1 ∧ Q (some (.int v1)) σ1))) ∧ (¬ (σ.1 121 (x1).toNatClampNeg) ≤ x4 → EvM (N + 2) mX7_signAt [.ref 5, .int x2, .int (x3 + x4)] σ (fun r9 σ2 => ∃ v2, r9 = some (.int v2) ∧ ((0 ≤ v2 → KX4_fits_3 N σ2 Q x1 x2 x3 (x4 + 1)) ∧ (¬ 0 ≤ v2 → Q (some (.int 0)) σ2)))))) : KX4_fits_3 N σ Q x1 x2 x3 x4 := by
  refine ev_iload 4 dX4_fits_3 rfl ?_
  refine ev_aload_n 0 dX4_fits_5 rfl ?_
  refine ev_getR (r := 121) G4 lay_115 (k := 2) rfl (Nat.le_of_ble_eq_true rfl) dX4_fits_6 w_286 ?_
  refine ev_iload_n 1 dX4_fits_9 rfl ?_
  have hb10 := h.1
  replace h := h.2
  refine ev_iald lay_121 (Nat.le_of_ble_eq_true rfl) hb10 dX4_fits_10 ?_
  refine ev_icmp_ge 37 dX4_fits_11 (by decide) (fun c9 => ?_) (fun c9 => ?_)
  · replace h := h.1 c9
    refine ev_aload_n 0 dX4_fits_37 rfl ?_
    refine ev_iload_n 1 dX4_fits_38 rfl ?_
    refine ev_iload_n 2 dX4_fits_39 rfl ?_
    refine ev_iload_n 3 dX4_fits_40 rfl ?_
    refine ev_iload_n 1 dX4_fits_41 rfl ?_
    refine ev_iload_n 2 dX4_fits_42 rfl ?_
    refine ev_iload_n 3 dX4_fits_43 rfl ?_
    refine ev_callV (M' := mX4_agree) [.int x1, .int x2, .int x3, .int x1, .int x2, .int x3] vX4_agree G4 lay_115 dX4_fits_44 w_839 rfl rfl (Nat.le_of_ble_eq_true rfl) h ?_
    rintro r9 σ1 ⟨v1, rfl, h⟩
    exact ev_zret (ty := .boolean) rfl (by exact h.1) dX4_fits_47 h.2
  · replace h := h.2 c9
    refine ev_aload_n 0 dX4_fits_14 rfl ?_
    refine ev_getR (r := 5) G4 lay_115 (k := 0) rfl (Nat.le_of_ble_eq_true rfl) dX4_fits_15 w_284 ?_
    refine ev_iload_n 2 dX4_fits_18 rfl ?_
    refine ev_iload_n 3 dX4_fits_19 rfl ?_
    refine ev_iload 4 dX4_fits_20 rfl ?_
    refine ev_iadd dX4_fits_22 ?_
    refine ev_callV (M' := mX7_signAt) [.int x2, .int (x3 + x4)] vX7_signAt G7 lay_5 dX4_fits_23 w_838 rfl rfl (Nat.le_of_ble_eq_true rfl) h ?_
    rintro r9 σ2 ⟨v2, rfl, h⟩
    refine ev_if_ge 31 dX4_fits_26 (by decide) (fun c9 => ?_) (fun c9 => ?_)
    · replace h := h.1 c9
      refine ev_iinc (lv' := [(4, .int (x4 + 1)), (0, .ref 115), (1, .int x1), (2, .int x2), (3, .int x3)]) (x4 + 1) 4 dX4_fits_31 rfl rfl (Nat.le_of_ble_eq_true rfl) rfl ?_
      refine ev_goto 3 dX4_fits_34 (by decide) ?_
      refine ev_sub [1, 2, 3, 4, 0] rfl ?_
      exact h
    · replace h := h.2 c9
      refine ev_iconst 0 dX4_fits_29 (by decide) ?_
      exact ev_zret (ty := .boolean) rfl (by rfl) dX4_fits_30 h
abbrev KX4_agree_3 (N : Nat) (σ : Sg) (Q : Option Value → Sg → Prop) (x1 : Int32) (x2 : Int32) (x3 : Int32) (x4 : Int32) (x5 : Int32) (x6 : Int32) (x7 : Int32) : Prop := Ev (N + 2) mX4_agree 3 [(0, .ref 115), (1, .int x1), (2, .int x2), (3, .int x3), (4, .int x4), (5, .int x5), (6, .int x6), (7, .int x7)] [] σ Q
abbrev KX4_agree_17 (N : Nat) (σ : Sg) (Q : Option Value → Sg → Prop) (x1 : Int32) (x2 : Int32) (x3 : Int32) (x4 : Int32) (x5 : Int32) (x6 : Int32) (x7 : Int32) (x8 : Int32) : Prop := Ev (N + 2) mX4_agree 17 [(0, .ref 115), (1, .int x1), (2, .int x2), (3, .int x3), (4, .int x4), (5, .int x5), (6, .int x6), (7, .int x7), (8, .int x8)] [] σ Q
theorem EX4_agree {N : Nat} {σ : Sg} {Q : Option Value → Sg → Prop} {x1 : Int32} {x2 : Int32} {x3 : Int32} {x4 : Int32} {x5 : Int32} {x6 : Int32} (h : KX4_agree_3 N σ Q x1 x2 x3 x4 x5 x6 0) : EvM (N + 2) mX4_agree [.ref 115, .int x1, .int x2, .int x3, .int x4, .int x5, .int x6] σ Q := by
  refine ev_entry rfl (Nat.le_of_ble_eq_true rfl) (lv := [(0, .ref 115), (1, .int x1), (2, .int x2), (3, .int x3), (4, .int x4), (5, .int x5), (6, .int x6)]) rfl ?_
  refine ev_iconst 0 dX4_agree_0 (by decide) ?_
  refine ev_istore (lv' := [(7, .int 0), (0, .ref 115), (1, .int x1), (2, .int x2), (3, .int x3), (4, .int x4), (5, .int x5), (6, .int x6)]) dX4_agree_1 (Nat.le_of_ble_eq_true rfl) rfl ?_
  refine ev_sub [1, 2, 3, 4, 5, 6, 7, 0] rfl ?_
  exact h
theorem BX4_agree_3 {N : Nat} {σ : Sg} {Q : Option Value → Sg → Prop} {x1 : Int32} {x2 : Int32} {x3 : Int32} {x4 : Int32} {x5 : Int32} {x6 : Int32} {x7 : Int32} (h : vp_in x1 4 ∧ (((σ.1 121 (x1).toNatClampNeg) ≤ x7 → Q (some (.int 1)) σ) ∧ (¬ (σ.1 121 (x1).toNatClampNeg) ≤ x7 → KX4_agree_17 N σ Q x1 x2 x3 x4 x5 x6 x7 0))) : KX4_agree_3 N σ Q x1 x2 x3 x4 x5 x6 x7 := by
  refine ev_iload 7 dX4_agree_3 rfl ?_
  refine ev_aload_n 0 dX4_agree_5 rfl ?_
  refine ev_getR (r := 121) G4 lay_115 (k := 2) rfl (Nat.le_of_ble_eq_true rfl) dX4_agree_6 w_286 ?_
  refine ev_iload_n 1 dX4_agree_9 rfl ?_
  have hb10 := h.1
  replace h := h.2
  refine ev_iald lay_121 (Nat.le_of_ble_eq_true rfl) hb10 dX4_agree_10 ?_
  refine ev_icmp_ge 115 dX4_agree_11 (by decide) (fun c9 => ?_) (fun c9 => ?_)
  · replace h := h.1 c9
    refine ev_iconst 1 dX4_agree_115 (by decide) ?_
    exact ev_zret (ty := .boolean) rfl (by rfl) dX4_agree_116 h
  · replace h := h.2 c9
    refine ev_iconst 0 dX4_agree_14 (by decide) ?_
    refine ev_istore (lv' := [(8, .int 0), (0, .ref 115), (1, .int x1), (2, .int x2), (3, .int x3), (4, .int x4), (5, .int x5), (6, .int x6), (7, .int x7)]) dX4_agree_15 (Nat.le_of_ble_eq_true rfl) rfl ?_
    refine ev_sub [1, 2, 3, 4, 5, 6, 7, 8, 0] rfl ?_
    exact h
theorem BX4_agree_17 {N : Nat} {σ : Sg} {Q : Option Value → Sg → Prop} {x1 : Int32} {x2 : Int32} {x3 : Int32} {x4 : Int32} {x5 : Int32} {x6 : Int32} {x7 : Int32} {x8 : Int32} (h : vp_in x4 4 ∧ (((σ.1 121 (x4).toNatClampNeg) ≤ x8 → KX4_agree_3 N σ Q x1 x2 x3 x4 x5 x6 (x7 + 1)) ∧ (¬ (σ.1 121 (x4).toNatClampNeg) ≤ x8 → EvM (N + 1) mX7_signAt [.ref 5, .int x2, .int (x3 + x7)] σ (fun r9 σ1 => ∃ v1, r9 = some (.int v1) ∧ (EvM (N + 1) mX7_signAt [.ref 5, .int x5, .int (x6 + x8)] σ1 (fun r9 σ2 => ∃ v2, r9 = some (.int v2) ∧ ((v1 = v2 → vp_in x1 4 ∧ (vp_in x7 8 ∧ (vp_in x4 4 ∧ (vp_in x8 8 ∧ (((σ2.1 (117 + (x1).toNatClampNeg) (x7).toNatClampNeg) = (σ2.1 (117 + (x4).toNatClampNeg) (x8).toNatClampNeg) → KX4_agree_17 N σ2 Q x1 x2 x3 x4 x5 x6 x7 (x8 + 1)) ∧ (¬ (σ2.1 (117 + (x1).toNatClampNeg) (x7).toNatClampNeg) = (σ2.1 (117 + (x4).toNatClampNeg) (x8).toNatClampNeg) → Q (some (.int 0)) σ2)))))) ∧ (¬ v1 = v2 → vp_in x1 4 ∧ (vp_in x7 8 ∧ (vp_in x4 4 ∧ (vp_in x8 8 ∧ (((σ2.1 (117 + (x1).toNatClampNeg) (x7).toNatClampNeg) = (σ2.1 (117 + (x4).toNatClampNeg) (x8).toNatClampNeg) → Q (some (.int 0)) σ2) ∧ (¬ (σ2.1 (117 + (x1).toNatClampNeg) (x7).toNatClampNeg) = (σ2.1 (117 + (x4).toNatClampNeg) (x8).toNatClampNeg) → KX4_agree_17 N σ2 Q x1 x2 x3 x4 x5 x6 x7 (x8 + 1)))))))))))))) : KX4_agree_17 N σ Q x1 x2 x3 x4 x5 x6 x7 x8 := by
  refine ev_iload 8 dX4_agree_17 rfl ?_
  refine ev_aload_n 0 dX4_agree_19 rfl ?_
  refine ev_getR (r := 121) G4 lay_115 (k := 2) rfl (Nat.le_of_ble_eq_true rfl) dX4_agree_20 w_286 ?_
  refine ev_iload 4 dX4_agree_23 rfl ?_
  have hb25 := h.1
  replace h := h.2
  refine ev_iald lay_121 (Nat.le_of_ble_eq_true rfl) hb25 dX4_agree_25 ?_
  refine ev_icmp_ge 109 dX4_agree_26 (by decide) (fun c9 => ?_) (fun c9 => ?_)
  · replace h := h.1 c9
    refine ev_iinc (lv' := [(7, .int (x7 + 1)), (0, .ref 115), (1, .int x1), (2, .int x2), (3, .int x3), (4, .int x4), (5, .int x5), (6, .int x6), (8, .int x8)]) (x7 + 1) 7 dX4_agree_109 rfl rfl (Nat.le_of_ble_eq_true rfl) rfl ?_
    refine ev_goto 3 dX4_agree_112 (by decide) ?_
    refine ev_sub [1, 2, 3, 4, 5, 6, 7, 0] rfl ?_
    exact h
  · replace h := h.2 c9
    refine ev_aload_n 0 dX4_agree_29 rfl ?_
    refine ev_getR (r := 5) G4 lay_115 (k := 0) rfl (Nat.le_of_ble_eq_true rfl) dX4_agree_30 w_284 ?_
    refine ev_iload_n 2 dX4_agree_33 rfl ?_
    refine ev_iload_n 3 dX4_agree_34 rfl ?_
    refine ev_iload 7 dX4_agree_35 rfl ?_
    refine ev_iadd dX4_agree_37 ?_
    refine ev_callV (M' := mX7_signAt) [.int x2, .int (x3 + x7)] vX7_signAt G7 lay_5 dX4_agree_38 w_838 rfl rfl (Nat.le_of_ble_eq_true rfl) h ?_
    rintro r9 σ1 ⟨v1, rfl, h⟩
    refine ev_aload_n 0 dX4_agree_41 rfl ?_
    refine ev_getR (r := 5) G4 lay_115 (k := 0) rfl (Nat.le_of_ble_eq_true rfl) dX4_agree_42 w_284 ?_
    refine ev_iload 5 dX4_agree_45 rfl ?_
    refine ev_iload 6 dX4_agree_47 rfl ?_
    refine ev_iload 8 dX4_agree_49 rfl ?_
    refine ev_iadd dX4_agree_51 ?_
    refine ev_callV (M' := mX7_signAt) [.int x5, .int (x6 + x8)] vX7_signAt G7 lay_5 dX4_agree_52 w_838 rfl rfl (Nat.le_of_ble_eq_true rfl) h ?_
    rintro r9 σ2 ⟨v2, rfl, h⟩
    refine ev_icmp_ne 62 dX4_agree_55 (by decide) (fun c9 => ?_) (fun c9 => ?_)
    · replace h := h.2 c9
      refine ev_iconst 0 dX4_agree_62 (by decide) ?_
      refine ev_istore (lv' := [(9, .int 0), (0, .ref 115), (1, .int x1), (2, .int x2), (3, .int x3), (4, .int x4), (5, .int x5), (6, .int x6), (7, .int x7), (8, .int x8)]) dX4_agree_63 (Nat.le_of_ble_eq_true rfl) rfl ?_
      refine ev_aload_n 1 dX4_agree_65 rfl ?_
      refine ev_getR (r := 116) G4 lay_115 (k := 1) rfl (Nat.le_of_ble_eq_true rfl) dX4_agree_66 w_285 ?_
      refine ev_iload_n 2 dX4_agree_69 rfl ?_
      have hb70 := h.1
      replace h := h.2
      refine ev_aald (b := 117) lay_116 (Nat.le_of_ble_eq_true rfl) hb70 dX4_agree_70 ?_
      refine ev_iload 8 dX4_agree_71 rfl ?_
      have hb73 := h.1
      replace h := h.2
      refine ev_iald (layr_117 _ (Nat.not_le.mp fun q9 => hb70 (Or.inr q9))).1 (layr_117 _ (Nat.not_le.mp fun q9 => hb70 (Or.inr q9))).2 hb73 dX4_agree_73 ?_
      refine ev_aload_n 1 dX4_agree_74 rfl ?_
      refine ev_getR (r := 116) G4 lay_115 (k := 1) rfl (Nat.le_of_ble_eq_true rfl) dX4_agree_75 w_285 ?_
      refine ev_iload 5 dX4_agree_78 rfl ?_
      have hb80 := h.1
      replace h := h.2
      refine ev_aald (b := 117) lay_116 (Nat.le_of_ble_eq_true rfl) hb80 dX4_agree_80 ?_
      refine ev_iload 9 dX4_agree_81 rfl ?_
      have hb83 := h.1
      replace h := h.2
      refine ev_iald (layr_117 _ (Nat.not_le.mp fun q9 => hb80 (Or.inr q9))).1 (layr_117 _ (Nat.not_le.mp fun q9 => hb80 (Or.inr q9))).2 hb83 dX4_agree_83 ?_
      refine ev_icmp_ne 91 dX4_agree_84 (by decide) (fun c9 => ?_) (fun c9 => ?_)
      · replace h := h.2 c9
        refine ev_iconst 0 dX4_agree_91 (by decide) ?_
        refine ev_istore (lv' := [(10, .int 0), (9, .int 0), (0, .ref 115), (1, .int x1), (2, .int x2), (3, .int x3), (4, .int x4), (5, .int x5), (6, .int x6), (7, .int x7), (8, .int x8)]) dX4_agree_92 (Nat.le_of_ble_eq_true rfl) rfl ?_
        refine ev_iload 1 dX4_agree_94 rfl ?_
        refine ev_iload 0 dX4_agree_96 rfl ?_
        refine ev_icmp_eq 103 dX4_agree_98 (by decide) (fun c9 => ?_) (fun c9 => ?_)
        · refine ev_iinc (lv' := [(8, .int (x8 + 1)), (10, .int 0), (9, .int 0), (0, .ref 115), (1, .int x1), (2, .int x2), (3, .int x3), (4, .int x4), (5, .int x5), (6, .int x6), (7, .int x7)]) (x8 + 1) 10 dX4_agree_103 rfl rfl (Nat.le_of_ble_eq_true rfl) rfl ?_
          refine ev_goto 17 dX4_agree_106 (by decide) ?_
          refine ev_sub [3, 4, 5, 6, 7, 8, 9, 10, 0] rfl ?_
          exact h
        · exact absurd c9 (by decide)
      · replace h := h.1 c9
        refine ev_iconst 1 dX4_agree_87 (by decide) ?_
        refine ev_goto 92 dX4_agree_88 (by decide) ?_
        refine ev_istore (lv' := [(10, .int 1), (9, .int 0), (0, .ref 115), (1, .int x1), (2, .int x2), (3, .int x3), (4, .int x4), (5, .int x5), (6, .int x6), (7, .int x7), (8, .int x8)]) dX4_agree_92 (Nat.le_of_ble_eq_true rfl) rfl ?_
        refine ev_iload 1 dX4_agree_94 rfl ?_
        refine ev_iload 0 dX4_agree_96 rfl ?_
        refine ev_icmp_eq 103 dX4_agree_98 (by decide) (fun c9 => ?_) (fun c9 => ?_)
        · exact absurd c9 (by decide)
        · refine ev_iconst 0 dX4_agree_101 (by decide) ?_
          exact ev_zret (ty := .boolean) rfl (by rfl) dX4_agree_102 h
    · replace h := h.1 c9
      refine ev_iconst 1 dX4_agree_58 (by decide) ?_
      refine ev_goto 63 dX4_agree_59 (by decide) ?_
      refine ev_istore (lv' := [(9, .int 1), (0, .ref 115), (1, .int x1), (2, .int x2), (3, .int x3), (4, .int x4), (5, .int x5), (6, .int x6), (7, .int x7), (8, .int x8)]) dX4_agree_63 (Nat.le_of_ble_eq_true rfl) rfl ?_
      refine ev_aload_n 1 dX4_agree_65 rfl ?_
      refine ev_getR (r := 116) G4 lay_115 (k := 1) rfl (Nat.le_of_ble_eq_true rfl) dX4_agree_66 w_285 ?_
      refine ev_iload_n 2 dX4_agree_69 rfl ?_
      have hb70 := h.1
      replace h := h.2
      refine ev_aald (b := 117) lay_116 (Nat.le_of_ble_eq_true rfl) hb70 dX4_agree_70 ?_
      refine ev_iload 8 dX4_agree_71 rfl ?_
      have hb73 := h.1
      replace h := h.2
      refine ev_iald (layr_117 _ (Nat.not_le.mp fun q9 => hb70 (Or.inr q9))).1 (layr_117 _ (Nat.not_le.mp fun q9 => hb70 (Or.inr q9))).2 hb73 dX4_agree_73 ?_
      refine ev_aload_n 1 dX4_agree_74 rfl ?_
      refine ev_getR (r := 116) G4 lay_115 (k := 1) rfl (Nat.le_of_ble_eq_true rfl) dX4_agree_75 w_285 ?_
      refine ev_iload 5 dX4_agree_78 rfl ?_
      have hb80 := h.1
      replace h := h.2
      refine ev_aald (b := 117) lay_116 (Nat.le_of_ble_eq_true rfl) hb80 dX4_agree_80 ?_
      refine ev_iload 9 dX4_agree_81 rfl ?_
      have hb83 := h.1
      replace h := h.2
      refine ev_iald (layr_117 _ (Nat.not_le.mp fun q9 => hb80 (Or.inr q9))).1 (layr_117 _ (Nat.not_le.mp fun q9 => hb80 (Or.inr q9))).2 hb83 dX4_agree_83 ?_
      refine ev_icmp_ne 91 dX4_agree_84 (by decide) (fun c9 => ?_) (fun c9 => ?_)
      · replace h := h.2 c9
        refine ev_iconst 0 dX4_agree_91 (by decide) ?_
        refine ev_istore (lv' := [(10, .int 0), (9, .int 1), (0, .ref 115), (1, .int x1), (2, .int x2), (3, .int x3), (4, .int x4), (5, .int x5), (6, .int x6), (7, .int x7), (8, .int x8)]) dX4_agree_92 (Nat.le_of_ble_eq_true rfl) rfl ?_
        refine ev_iload 1 dX4_agree_94 rfl ?_
        refine ev_iload 0 dX4_agree_96 rfl ?_
        refine ev_icmp_eq 103 dX4_agree_98 (by decide) (fun c9 => ?_) (fun c9 => ?_)
        · exact absurd c9 (by decide)
        · refine ev_iconst 0 dX4_agree_101 (by decide) ?_
          exact ev_zret (ty := .boolean) rfl (by rfl) dX4_agree_102 h
      · replace h := h.1 c9
        refine ev_iconst 1 dX4_agree_87 (by decide) ?_
        refine ev_goto 92 dX4_agree_88 (by decide) ?_
        refine ev_istore (lv' := [(10, .int 1), (9, .int 1), (0, .ref 115), (1, .int x1), (2, .int x2), (3, .int x3), (4, .int x4), (5, .int x5), (6, .int x6), (7, .int x7), (8, .int x8)]) dX4_agree_92 (Nat.le_of_ble_eq_true rfl) rfl ?_
        refine ev_iload 1 dX4_agree_94 rfl ?_
        refine ev_iload 0 dX4_agree_96 rfl ?_
        refine ev_icmp_eq 103 dX4_agree_98 (by decide) (fun c9 => ?_) (fun c9 => ?_)
        · refine ev_iinc (lv' := [(8, .int (x8 + 1)), (10, .int 1), (9, .int 1), (0, .ref 115), (1, .int x1), (2, .int x2), (3, .int x3), (4, .int x4), (5, .int x5), (6, .int x6), (7, .int x7)]) (x8 + 1) 10 dX4_agree_103 rfl rfl (Nat.le_of_ble_eq_true rfl) rfl ?_
          refine ev_goto 17 dX4_agree_106 (by decide) ?_
          refine ev_sub [3, 4, 5, 6, 7, 8, 9, 10, 0] rfl ?_
          exact h
        · exact absurd c9 (by decide)
theorem EX5_lengthOf {N : Nat} {σ : Sg} {Q : Option Value → Sg → Prop} {x1 : Int32} (h : ((vp_in x1 4) → vp_in x1 4 ∧ (Q (some (.int (σ.1 239 (x1).toNatClampNeg))) σ)) ∧ (¬ (vp_in x1 4) → Q (some (.int (-4))) σ)) : EvM (N + 1) mX5_lengthOf [.ref 237, .int x1] σ Q := by
  refine ev_entry rfl (Nat.le_of_ble_eq_true rfl) (lv := [(0, .ref 237), (1, .int x1)]) rfl ?_
  refine ev_iload_n 1 dX5_lengthOf_0 rfl ?_
  refine ev_callS (M' := mX5_isSheet) [.int x1] vX5_isSheet dX5_lengthOf_1 w_525 rfl rfl (Nat.le_of_ble_eq_true rfl) (C5_isSheet (Q := fun r9 s9 => σ = s9 ∧ ((r9 = some (.int 1) ∧ (vp_in x1 4)) ∨ (r9 = some (.int 0) ∧ ¬ (vp_in x1 4)))) ⟨fun c9 => ⟨rfl, Or.inl ⟨rfl, c9⟩⟩, fun c9 => ⟨rfl, Or.inr ⟨rfl, c9⟩⟩⟩) ?_
  rintro r9 s9 ⟨rfl, ⟨rfl, c9⟩ | ⟨rfl, c9⟩⟩
  · replace h := h.1 c9
    refine ev_if_eq 16 dX5_lengthOf_4 (by decide) (fun c9 => ?_) (fun c9 => ?_)
    · exact absurd c9 (by decide)
    · refine ev_aload_n 0 dX5_lengthOf_7 rfl ?_
      refine ev_getR (r := 239) G5 lay_237 (k := 1) rfl (Nat.le_of_ble_eq_true rfl) dX5_lengthOf_8 w_402 ?_
      refine ev_iload_n 1 dX5_lengthOf_11 rfl ?_
      have hb12 := h.1
      replace h := h.2
      refine ev_iald lay_239 (Nat.le_of_ble_eq_true rfl) hb12 dX5_lengthOf_12 ?_
      refine ev_goto 18 dX5_lengthOf_13 (by decide) ?_
      exact ev_iret rfl dX5_lengthOf_18 h
  · replace h := h.2 c9
    refine ev_if_eq 16 dX5_lengthOf_4 (by decide) (fun c9 => ?_) (fun c9 => ?_)
    · refine ev_bipush (-4) dX5_lengthOf_16 (by decide) ?_
      exact ev_iret rfl dX5_lengthOf_18 h
    · exact absurd c9 (by decide)
abbrev KX5_renew_46 (N : Nat) (σ : Sg) (Q : Option Value → Sg → Prop) (x1 : Int32) (x4 : Int32) : Prop := Ev (N + 1) mX5_renew 46 [(0, .ref 237), (1, .int x1), (4, .int x4)] [] σ Q
theorem EX5_renew {N : Nat} {σ : Sg} {Q : Option Value → Sg → Prop} {x1 : Int32} {x2 : Int32} {x3 : Int32} (h : ((vp_in x1 4) → ((vp_in x2 3) → (x3 ≤ 60 → (0 ≤ x3 → vp_in x1 4 ∧ (vp_in x1 4 ∧ (KX5_renew_46 N (u1 (u1 σ 238 (x1).toNatClampNeg x2) 239 (x1).toNatClampNeg x3) Q x1 0))) ∧ (¬ 0 ≤ x3 → Q (some (.int (-14))) σ)) ∧ (¬ x3 ≤ 60 → Q (some (.int (-1))) σ)) ∧ (¬ (vp_in x2 3) → Q (some (.int (-1))) σ)) ∧ (¬ (vp_in x1 4) → Q (some (.int (-1))) σ)) : EvM (N + 1) mX5_renew [.ref 237, .int x1, .int x2, .int x3] σ Q := by
  refine ev_entry rfl (Nat.le_of_ble_eq_true rfl) (lv := [(0, .ref 237), (1, .int x1), (2, .int x2), (3, .int x3)]) rfl ?_
  refine ev_iload_n 1 dX5_renew_0 rfl ?_
  refine ev_callS (M' := mX5_isSheet) [.int x1] vX5_isSheet dX5_renew_1 w_525 rfl rfl (Nat.le_of_ble_eq_true rfl) (C5_isSheet (Q := fun r9 s9 => σ = s9 ∧ ((r9 = some (.int 1) ∧ (vp_in x1 4)) ∨ (r9 = some (.int 0) ∧ ¬ (vp_in x1 4)))) ⟨fun c9 => ⟨rfl, Or.inl ⟨rfl, c9⟩⟩, fun c9 => ⟨rfl, Or.inr ⟨rfl, c9⟩⟩⟩) ?_
  rintro r9 s9 ⟨rfl, ⟨rfl, c9⟩ | ⟨rfl, c9⟩⟩
  · replace h := h.1 c9
    refine ev_if_eq 20 dX5_renew_4 (by decide) (fun c9 => ?_) (fun c9 => ?_)
    · exact absurd c9 (by decide)
    · refine ev_iload_n 2 dX5_renew_7 rfl ?_
      refine ev_callS (M' := mX5_isLane) [.int x2] vX5_isLane dX5_renew_8 w_1169 rfl rfl (Nat.le_of_ble_eq_true rfl) (C5_isLane (Q := fun r9 s9 => σ = s9 ∧ ((r9 = some (.int 1) ∧ (vp_in x2 3)) ∨ (r9 = some (.int 0) ∧ ¬ (vp_in x2 3)))) ⟨fun c9 => ⟨rfl, Or.inl ⟨rfl, c9⟩⟩, fun c9 => ⟨rfl, Or.inr ⟨rfl, c9⟩⟩⟩) ?_
      rintro r9 s9 ⟨rfl, ⟨rfl, c9⟩ | ⟨rfl, c9⟩⟩
      · replace h := h.1 c9
        refine ev_if_eq 20 dX5_renew_11 (by decide) (fun c9 => ?_) (fun c9 => ?_)
        · exact absurd c9 (by decide)
        · refine ev_iload_n 3 dX5_renew_14 rfl ?_
          refine ev_bipush 60 dX5_renew_15 (by decide) ?_
          refine ev_icmp_le 22 dX5_renew_17 (by decide) (fun c9 => ?_) (fun c9 => ?_)
          · replace h := h.1 c9
            refine ev_iload_n 3 dX5_renew_22 rfl ?_
            refine ev_if_ge 29 dX5_renew_23 (by decide) (fun c9 => ?_) (fun c9 => ?_)
            · replace h := h.1 c9
              refine ev_aload_n 0 dX5_renew_29 rfl ?_
              refine ev_getR (r := 238) G5 lay_237 (k := 0) rfl (Nat.le_of_ble_eq_true rfl) dX5_renew_30 w_401 ?_
              refine ev_iload_n 1 dX5_renew_33 rfl ?_
              refine ev_iload_n 2 dX5_renew_34 rfl ?_
              have hb35 := h.1
              replace h := h.2
              refine ev_iast lay_238 (Nat.le_of_ble_eq_true rfl) hb35 dX5_renew_35 ?_
              refine ev_aload_n 0 dX5_renew_36 rfl ?_
              refine ev_getR (r := 239) G5 lay_237 (k := 1) rfl (Nat.le_of_ble_eq_true rfl) dX5_renew_37 w_402 ?_
              refine ev_iload_n 1 dX5_renew_40 rfl ?_
              refine ev_iload_n 3 dX5_renew_41 rfl ?_
              have hb42 := h.1
              replace h := h.2
              refine ev_iast lay_239 (Nat.le_of_ble_eq_true rfl) hb42 dX5_renew_42 ?_
              refine ev_iconst 0 dX5_renew_43 (by decide) ?_
              refine ev_istore (lv' := [(4, .int 0), (0, .ref 237), (1, .int x1), (2, .int x2), (3, .int x3)]) dX5_renew_44 (Nat.le_of_ble_eq_true rfl) rfl ?_
              refine ev_sub [1, 2, 0] rfl ?_
              exact h
            · replace h := h.2 c9
              refine ev_bipush (-14) dX5_renew_26 (by decide) ?_
              exact ev_iret rfl dX5_renew_28 h
          · replace h := h.2 c9
            refine ev_iconst (-1) dX5_renew_20 (by decide) ?_
            exact ev_iret rfl dX5_renew_21 h
      · replace h := h.2 c9
        refine ev_if_eq 20 dX5_renew_11 (by decide) (fun c9 => ?_) (fun c9 => ?_)
        · refine ev_iconst (-1) dX5_renew_20 (by decide) ?_
          exact ev_iret rfl dX5_renew_21 h
        · exact absurd c9 (by decide)
  · replace h := h.2 c9
    refine ev_if_eq 20 dX5_renew_4 (by decide) (fun c9 => ?_) (fun c9 => ?_)
    · refine ev_iconst (-1) dX5_renew_20 (by decide) ?_
      exact ev_iret rfl dX5_renew_21 h
    · exact absurd c9 (by decide)
theorem BX5_renew_46 {N : Nat} {σ : Sg} {Q : Option Value → Sg → Prop} {x1 : Int32} {x4 : Int32} (h : (60 ≤ x4 → Q (some (.int 1)) σ) ∧ (¬ 60 ≤ x4 → vp_in x1 4 ∧ (vp_in x4 60 ∧ (KX5_renew_46 N (u1 σ (241 + (x1).toNatClampNeg) (x4).toNatClampNeg 0) Q x1 (x4 + 1))))) : KX5_renew_46 N σ Q x1 x4 := by
  refine ev_iload 2 dX5_renew_46 rfl ?_
  refine ev_bipush 60 dX5_renew_48 (by decide) ?_
  refine ev_icmp_ge 69 dX5_renew_50 (by decide) (fun c9 => ?_) (fun c9 => ?_)
  · replace h := h.1 c9
    refine ev_iconst 1 dX5_renew_69 (by decide) ?_
    exact ev_iret rfl dX5_renew_70 h
  · replace h := h.2 c9
    refine ev_aload_n 0 dX5_renew_53 rfl ?_
    refine ev_getR (r := 240) G5 lay_237 (k := 2) rfl (Nat.le_of_ble_eq_true rfl) dX5_renew_54 w_403 ?_
    refine ev_iload_n 1 dX5_renew_57 rfl ?_
    have hb58 := h.1
    replace h := h.2
    refine ev_aald (b := 241) lay_240 (Nat.le_of_ble_eq_true rfl) hb58 dX5_renew_58 ?_
    refine ev_iload 2 dX5_renew_59 rfl ?_
    refine ev_iconst 0 dX5_renew_61 (by decide) ?_
    have hb62 := h.1
    replace h := h.2
    refine ev_iast (layr_241 _ (Nat.not_le.mp fun q9 => hb58 (Or.inr q9))).1 (layr_241 _ (Nat.not_le.mp fun q9 => hb58 (Or.inr q9))).2 hb62 dX5_renew_62 ?_
    refine ev_iinc (lv' := [(4, .int (x4 + 1)), (0, .ref 237), (1, .int x1)]) (x4 + 1) 2 dX5_renew_63 rfl rfl (Nat.le_of_ble_eq_true rfl) rfl ?_
    refine ev_goto 46 dX5_renew_66 (by decide) ?_
    refine ev_sub [1, 2, 0] rfl ?_
    exact h
theorem EX5_put {N : Nat} {σ : Sg} {Q : Option Value → Sg → Prop} {x1 : Int32} {x2 : Int32} {x3 : Int32} (h : ((vp_in x1 4) → vp_in x1 4 ∧ (((σ.1 239 (x1).toNatClampNeg) = (-4) → Q (some (.int (-11))) σ) ∧ (¬ (σ.1 239 (x1).toNatClampNeg) = (-4) → EvM (N + 1) mX5_hasCell [.ref 237, .int x1, .int x2] σ (fun r9 σ1 => ∃ v1, r9 = some (.int v1) ∧ ((v1 = 0 → Q (some (.int (-12))) σ1) ∧ (¬ v1 = 0 → vp_in x1 4 ∧ (vp_in x1 4 ∧ (EvM (N + 1) mX5_lowestBits [.int (σ1.1 238 (x1).toNatClampNeg), .int x3] σ1 (fun r9 σ2 => ∃ v2, r9 = some (.int v2) ∧ (vp_in x2 60 ∧ (Q (some (.int 1)) (u1 σ2 (241 + (x1).toNatClampNeg) (x2).toNatClampNeg v2)))))))))))) ∧ (¬ (vp_in x1 4) → Q (some (.int (-1))) σ)) : EvM (N + 2) mX5_put [.ref 237, .int x1, .int x2, .int x3] σ Q := by
  refine ev_entry rfl (Nat.le_of_ble_eq_true rfl) (lv := [(0, .ref 237), (1, .int x1), (2, .int x2), (3, .int x3)]) rfl ?_
  refine ev_iload_n 1 dX5_put_0 rfl ?_
  refine ev_callS (M' := mX5_isSheet) [.int x1] vX5_isSheet dX5_put_1 w_525 rfl rfl (Nat.le_of_ble_eq_true rfl) (C5_isSheet (Q := fun r9 s9 => σ = s9 ∧ ((r9 = some (.int 1) ∧ (vp_in x1 4)) ∨ (r9 = some (.int 0) ∧ ¬ (vp_in x1 4)))) ⟨fun c9 => ⟨rfl, Or.inl ⟨rfl, c9⟩⟩, fun c9 => ⟨rfl, Or.inr ⟨rfl, c9⟩⟩⟩) ?_
  rintro r9 s9 ⟨rfl, ⟨rfl, c9⟩ | ⟨rfl, c9⟩⟩
  · replace h := h.1 c9
    refine ev_if_ne 9 dX5_put_4 (by decide) (fun c9 => ?_) (fun c9 => ?_)
    · refine ev_aload_n 0 dX5_put_9 rfl ?_
      refine ev_getR (r := 239) G5 lay_237 (k := 1) rfl (Nat.le_of_ble_eq_true rfl) dX5_put_10 w_402 ?_
      refine ev_iload_n 1 dX5_put_13 rfl ?_
      have hb14 := h.1
      replace h := h.2
      refine ev_iald lay_239 (Nat.le_of_ble_eq_true rfl) hb14 dX5_put_14 ?_
      refine ev_bipush (-4) dX5_put_15 (by decide) ?_
      refine ev_icmp_ne 23 dX5_put_17 (by decide) (fun c9 => ?_) (fun c9 => ?_)
      · replace h := h.2 c9
        refine ev_aload_n 0 dX5_put_23 rfl ?_
        refine ev_iload_n 1 dX5_put_24 rfl ?_
        refine ev_iload_n 2 dX5_put_25 rfl ?_
        refine ev_callV (M' := mX5_hasCell) [.int x1, .int x2] vX5_hasCell G5 lay_237 dX5_put_26 w_534 rfl rfl (Nat.le_of_ble_eq_true rfl) h ?_
        rintro r9 σ1 ⟨v1, rfl, h⟩
        refine ev_if_ne 35 dX5_put_29 (by decide) (fun c9 => ?_) (fun c9 => ?_)
        · replace h := h.2 c9
          refine ev_aload_n 0 dX5_put_35 rfl ?_
          refine ev_getR (r := 240) G5 lay_237 (k := 2) rfl (Nat.le_of_ble_eq_true rfl) dX5_put_36 w_403 ?_
          refine ev_iload_n 1 dX5_put_39 rfl ?_
          have hb40 := h.1
          replace h := h.2
          refine ev_aald (b := 241) lay_240 (Nat.le_of_ble_eq_true rfl) hb40 dX5_put_40 ?_
          refine ev_iload_n 2 dX5_put_41 rfl ?_
          refine ev_aload_n 0 dX5_put_42 rfl ?_
          refine ev_getR (r := 238) G5 lay_237 (k := 0) rfl (Nat.le_of_ble_eq_true rfl) dX5_put_43 w_401 ?_
          refine ev_iload_n 1 dX5_put_46 rfl ?_
          have hb47 := h.1
          replace h := h.2
          refine ev_iald lay_238 (Nat.le_of_ble_eq_true rfl) hb47 dX5_put_47 ?_
          refine ev_iload_n 3 dX5_put_48 rfl ?_
          refine ev_callS (M' := mX5_lowestBits) [.int (σ1.1 238 (x1).toNatClampNeg), .int x3] vX5_lowestBits dX5_put_49 w_1178 rfl rfl (Nat.le_of_ble_eq_true rfl) h ?_
          rintro r9 σ2 ⟨v2, rfl, h⟩
          have hb52 := h.1
          replace h := h.2
          refine ev_iast (layr_241 _ (Nat.not_le.mp fun q9 => hb40 (Or.inr q9))).1 (layr_241 _ (Nat.not_le.mp fun q9 => hb40 (Or.inr q9))).2 hb52 dX5_put_52 ?_
          refine ev_iconst 1 dX5_put_53 (by decide) ?_
          exact ev_iret rfl dX5_put_54 h
        · replace h := h.1 c9
          refine ev_bipush (-12) dX5_put_32 (by decide) ?_
          exact ev_iret rfl dX5_put_34 h
      · replace h := h.1 c9
        refine ev_bipush (-11) dX5_put_20 (by decide) ?_
        exact ev_iret rfl dX5_put_22 h
    · exact absurd c9 (by decide)
  · replace h := h.2 c9
    refine ev_if_ne 9 dX5_put_4 (by decide) (fun c9 => ?_) (fun c9 => ?_)
    · exact absurd c9 (by decide)
    · refine ev_iconst (-1) dX5_put_7 (by decide) ?_
      exact ev_iret rfl dX5_put_8 h
theorem EX5_lowestBits {N : Nat} {σ : Sg} {Q : Option Value → Sg → Prop} {x0 : Int32} {x1 : Int32} (h : (x0 = 0 → Q (some (.int ((x1).toInt8.toInt32))) σ) ∧ (x0 = 1 → Q (some (.int ((x1).toInt16.toInt32))) σ) ∧ (¬ x0 = 0 → ¬ x0 = 1 → Q (some (.int x1)) σ)) : EvM N mX5_lowestBits [.int x0, .int x1] σ Q := by
  refine ev_entry rfl (Nat.le_of_ble_eq_true rfl) (lv := [(0, .int x0), (1, .int x1)]) rfl ?_
  refine ev_iload_n 0 dX5_lowestBits_0 rfl ?_
  by_cases c0 : x0 = 0
  · replace h := h.1 c0
    refine ev_lookup (off := 27) 28 dX5_lowestBits_1 (by decide) (by rw [c0]; decide) (by decide) ?_
    refine ev_iload_n 1 dX5_lowestBits_28 rfl ?_
    refine ev_i2b dX5_lowestBits_29 ?_
    exact ev_iret rfl dX5_lowestBits_30 h
  by_cases c1 : x0 = 1
  · replace h := h.2.1 c1
    refine ev_lookup (off := 30) 31 dX5_lowestBits_1 (by decide) (by rw [c1]; decide) (by decide) ?_
    refine ev_iload_n 1 dX5_lowestBits_31 rfl ?_
    refine ev_i2s dX5_lowestBits_32 ?_
    exact ev_iret rfl dX5_lowestBits_33 h
  replace h := h.2.2 c0 c1
  refine ev_lookup (off := 33) 34 dX5_lowestBits_1 (by decide) (by rw [show (#[(0, 27), (1, 30)] : Array (Int × Int)).toList = [(0, 27), (1, 30)] from rfl, lv_osw c0 (by decide), lv_osw c1 (by decide)]; rfl) (by decide) ?_
  refine ev_iload_n 1 dX5_lowestBits_34 rfl ?_
  exact ev_iret rfl dX5_lowestBits_35 h
theorem EX5_faultAs {N : Nat} {σ : Sg} {Q : Option Value → Sg → Prop} {x1 : Int32} {x2 : Int32} (h : EvM (N + 1) mX5_lengthOf [.ref 237, .int x1] σ (fun r9 σ1 => ∃ v1, r9 = some (.int v1) ∧ ((v1 = (-4) → Q (some (.int 1)) σ1) ∧ (¬ v1 = (-4) → vp_in x1 4 ∧ (((σ1.1 238 (x1).toNatClampNeg) = x2 → Q (some (.int 0)) σ1) ∧ (¬ (σ1.1 238 (x1).toNatClampNeg) = x2 → Q (some (.int 3)) σ1)))))) : EvM (N + 2) mX5_faultAs [.ref 237, .int x1, .int x2] σ Q := by
  refine ev_entry rfl (Nat.le_of_ble_eq_true rfl) (lv := [(0, .ref 237), (1, .int x1), (2, .int x2)]) rfl ?_
  refine ev_aload_n 0 dX5_faultAs_0 rfl ?_
  refine ev_iload_n 1 dX5_faultAs_1 rfl ?_
  refine ev_callV (M' := mX5_lengthOf) [.int x1] vX5_lengthOf G5 lay_237 dX5_faultAs_2 w_521 rfl rfl (Nat.le_of_ble_eq_true rfl) h ?_
  rintro r9 σ1 ⟨v1, rfl, h⟩
  refine ev_bipush (-4) dX5_faultAs_5 (by decide) ?_
  refine ev_icmp_ne 12 dX5_faultAs_7 (by decide) (fun c9 => ?_) (fun c9 => ?_)
  · replace h := h.2 c9
    refine ev_aload_n 0 dX5_faultAs_12 rfl ?_
    refine ev_getR (r := 238) G5 lay_237 (k := 0) rfl (Nat.le_of_ble_eq_true rfl) dX5_faultAs_13 w_401 ?_
    refine ev_iload_n 1 dX5_faultAs_16 rfl ?_
    have hb17 := h.1
    replace h := h.2
    refine ev_iald lay_238 (Nat.le_of_ble_eq_true rfl) hb17 dX5_faultAs_17 ?_
    refine ev_iload_n 2 dX5_faultAs_18 rfl ?_
    refine ev_icmp_ne 26 dX5_faultAs_19 (by decide) (fun c9 => ?_) (fun c9 => ?_)
    · replace h := h.2 c9
      refine ev_iconst 3 dX5_faultAs_26 (by decide) ?_
      exact ev_iret rfl dX5_faultAs_27 h
    · replace h := h.1 c9
      refine ev_iconst 0 dX5_faultAs_22 (by decide) ?_
      refine ev_goto 27 dX5_faultAs_23 (by decide) ?_
      exact ev_iret rfl dX5_faultAs_27 h
  · replace h := h.1 c9
    refine ev_iconst 1 dX5_faultAs_10 (by decide) ?_
    exact ev_iret rfl dX5_faultAs_11 h
theorem EX5_hasCell {N : Nat} {σ : Sg} {Q : Option Value → Sg → Prop} {x1 : Int32} {x2 : Int32} (h : ((vp_in x1 4) → (x2 < 0 → Q (some (.int 0)) σ) ∧ (¬ x2 < 0 → vp_in x1 4 ∧ (((σ.1 239 (x1).toNatClampNeg) ≤ x2 → Q (some (.int 0)) σ) ∧ (¬ (σ.1 239 (x1).toNatClampNeg) ≤ x2 → (60 ≤ x2 → Q (some (.int 0)) σ) ∧ (¬ 60 ≤ x2 → Q (some (.int 1)) σ))))) ∧ (¬ (vp_in x1 4) → Q (some (.int 0)) σ)) : EvM (N + 1) mX5_hasCell [.ref 237, .int x1, .int x2] σ Q := by
  refine ev_entry rfl (Nat.le_of_ble_eq_true rfl) (lv := [(0, .ref 237), (1, .int x1), (2, .int x2)]) rfl ?_
  refine ev_iload_n 1 dX5_hasCell_0 rfl ?_
  refine ev_callS (M' := mX5_isSheet) [.int x1] vX5_isSheet dX5_hasCell_1 w_525 rfl rfl (Nat.le_of_ble_eq_true rfl) (C5_isSheet (Q := fun r9 s9 => σ = s9 ∧ ((r9 = some (.int 1) ∧ (vp_in x1 4)) ∨ (r9 = some (.int 0) ∧ ¬ (vp_in x1 4)))) ⟨fun c9 => ⟨rfl, Or.inl ⟨rfl, c9⟩⟩, fun c9 => ⟨rfl, Or.inr ⟨rfl, c9⟩⟩⟩) ?_
  rintro r9 s9 ⟨rfl, ⟨rfl, c9⟩ | ⟨rfl, c9⟩⟩
  · replace h := h.1 c9
    refine ev_if_eq 31 dX5_hasCell_4 (by decide) (fun c9 => ?_) (fun c9 => ?_)
    · exact absurd c9 (by decide)
    · refine ev_iload_n 2 dX5_hasCell_7 rfl ?_
      refine ev_if_lt 31 dX5_hasCell_8 (by decide) (fun c9 => ?_) (fun c9 => ?_)
      · replace h := h.1 c9
        refine ev_iconst 0 dX5_hasCell_31 (by decide) ?_
        exact ev_zret (ty := .boolean) rfl (by rfl) dX5_hasCell_32 h
      · replace h := h.2 c9
        refine ev_iload_n 2 dX5_hasCell_11 rfl ?_
        refine ev_aload_n 0 dX5_hasCell_12 rfl ?_
        refine ev_getR (r := 239) G5 lay_237 (k := 1) rfl (Nat.le_of_ble_eq_true rfl) dX5_hasCell_13 w_402 ?_
        refine ev_iload_n 1 dX5_hasCell_16 rfl ?_
        have hb17 := h.1
        replace h := h.2
        refine ev_iald lay_239 (Nat.le_of_ble_eq_true rfl) hb17 dX5_hasCell_17 ?_
        refine ev_icmp_ge 31 dX5_hasCell_18 (by decide) (fun c9 => ?_) (fun c9 => ?_)
        · replace h := h.1 c9
          refine ev_iconst 0 dX5_hasCell_31 (by decide) ?_
          exact ev_zret (ty := .boolean) rfl (by rfl) dX5_hasCell_32 h
        · replace h := h.2 c9
          refine ev_iload_n 2 dX5_hasCell_21 rfl ?_
          refine ev_bipush 60 dX5_hasCell_22 (by decide) ?_
          refine ev_icmp_ge 31 dX5_hasCell_24 (by decide) (fun c9 => ?_) (fun c9 => ?_)
          · replace h := h.1 c9
            refine ev_iconst 0 dX5_hasCell_31 (by decide) ?_
            exact ev_zret (ty := .boolean) rfl (by rfl) dX5_hasCell_32 h
          · replace h := h.2 c9
            refine ev_iconst 1 dX5_hasCell_27 (by decide) ?_
            refine ev_goto 32 dX5_hasCell_28 (by decide) ?_
            exact ev_zret (ty := .boolean) rfl (by rfl) dX5_hasCell_32 h
  · replace h := h.2 c9
    refine ev_if_eq 31 dX5_hasCell_4 (by decide) (fun c9 => ?_) (fun c9 => ?_)
    · refine ev_iconst 0 dX5_hasCell_31 (by decide) ?_
      exact ev_zret (ty := .boolean) rfl (by rfl) dX5_hasCell_32 h
    · exact absurd c9 (by decide)
theorem EX5_cellOf {N : Nat} {σ : Sg} {Q : Option Value → Sg → Prop} {x1 : Int32} {x2 : Int32} (h : EvM (N + 1) mX5_hasCell [.ref 237, .int x1, .int x2] σ (fun r9 σ1 => ∃ v1, r9 = some (.int v1) ∧ ((v1 = 0 → Q (some (.int 0)) σ1) ∧ (¬ v1 = 0 → vp_in x1 4 ∧ (vp_in x2 60 ∧ (Q (some (.int (σ1.1 (241 + (x1).toNatClampNeg) (x2).toNatClampNeg))) σ1)))))) : EvM (N + 2) mX5_cellOf [.ref 237, .int x1, .int x2] σ Q := by
  refine ev_entry rfl (Nat.le_of_ble_eq_true rfl) (lv := [(0, .ref 237), (1, .int x1), (2, .int x2)]) rfl ?_
  refine ev_aload_n 0 dX5_cellOf_0 rfl ?_
  refine ev_iload_n 1 dX5_cellOf_1 rfl ?_
  refine ev_iload_n 2 dX5_cellOf_2 rfl ?_
  refine ev_callV (M' := mX5_hasCell) [.int x1, .int x2] vX5_hasCell G5 lay_237 dX5_cellOf_3 w_534 rfl rfl (Nat.le_of_ble_eq_true rfl) h ?_
  rintro r9 σ1 ⟨v1, rfl, h⟩
  refine ev_if_eq 20 dX5_cellOf_6 (by decide) (fun c9 => ?_) (fun c9 => ?_)
  · replace h := h.1 c9
    refine ev_iconst 0 dX5_cellOf_20 (by decide) ?_
    exact ev_iret rfl dX5_cellOf_21 h
  · replace h := h.2 c9
    refine ev_aload_n 0 dX5_cellOf_9 rfl ?_
    refine ev_getR (r := 240) G5 lay_237 (k := 2) rfl (Nat.le_of_ble_eq_true rfl) dX5_cellOf_10 w_403 ?_
    refine ev_iload_n 1 dX5_cellOf_13 rfl ?_
    have hb14 := h.1
    replace h := h.2
    refine ev_aald (b := 241) lay_240 (Nat.le_of_ble_eq_true rfl) hb14 dX5_cellOf_14 ?_
    refine ev_iload_n 2 dX5_cellOf_15 rfl ?_
    have hb16 := h.1
    replace h := h.2
    refine ev_iald (layr_241 _ (Nat.not_le.mp fun q9 => hb14 (Or.inr q9))).1 (layr_241 _ (Nat.not_le.mp fun q9 => hb14 (Or.inr q9))).2 hb16 dX5_cellOf_16 ?_
    refine ev_goto 21 dX5_cellOf_17 (by decide) ?_
    exact ev_iret rfl dX5_cellOf_21 h
theorem EJ6_compare_7cf53 {N : Nat} {σ : Sg} {Q : Option Value → Sg → Prop} {x0 : Int32} {x1 : Int32} (h : (x1 ≤ x0 → (x0 = x1 → Q (some (.int 0)) σ) ∧ (¬ x0 = x1 → Q (some (.int 1)) σ)) ∧ (¬ x1 ≤ x0 → Q (some (.int (-1))) σ)) : EvM N mJ6_compare_7cf53 [.int x0, .int x1] σ Q := by
  refine ev_entry rfl (Nat.le_of_ble_eq_true rfl) (lv := [(0, .int x0), (1, .int x1)]) rfl ?_
  refine ev_iload_n 0 dJ6_compare_7cf53_0 rfl ?_
  refine ev_iload_n 1 dJ6_compare_7cf53_1 rfl ?_
  refine ev_icmp_ge 9 dJ6_compare_7cf53_2 (by decide) (fun c9 => ?_) (fun c9 => ?_)
  · replace h := h.1 c9
    refine ev_iload_n 0 dJ6_compare_7cf53_9 rfl ?_
    refine ev_iload_n 1 dJ6_compare_7cf53_10 rfl ?_
    refine ev_icmp_ne 18 dJ6_compare_7cf53_11 (by decide) (fun c9 => ?_) (fun c9 => ?_)
    · replace h := h.2 c9
      refine ev_iconst 1 dJ6_compare_7cf53_18 (by decide) ?_
      exact ev_iret rfl dJ6_compare_7cf53_19 h
    · replace h := h.1 c9
      refine ev_iconst 0 dJ6_compare_7cf53_14 (by decide) ?_
      refine ev_goto 19 dJ6_compare_7cf53_15 (by decide) ?_
      exact ev_iret rfl dJ6_compare_7cf53_19 h
  · replace h := h.2 c9
    refine ev_iconst (-1) dJ6_compare_7cf53_5 (by decide) ?_
    refine ev_goto 19 dJ6_compare_7cf53_6 (by decide) ?_
    exact ev_iret rfl dJ6_compare_7cf53_19 h
theorem EJ6_bitCount_0f7a4 {N : Nat} {σ : Sg} {Q : Option Value → Sg → Prop} {x0 : Int32} (h : Q (some (.int ((((((((x0 - ((((x0).toUInt32 >>> ((1 : Int32).toUInt32 &&& Int32.toUInt32 31)).toInt32) &&& 1431655765)) &&& 858993459) + ((((x0 - ((((x0).toUInt32 >>> ((1 : Int32).toUInt32 &&& Int32.toUInt32 31)).toInt32) &&& 1431655765)).toUInt32 >>> ((2 : Int32).toUInt32 &&& Int32.toUInt32 31)).toInt32) &&& 858993459)) + (((((x0 - ((((x0).toUInt32 >>> ((1 : Int32).toUInt32 &&& Int32.toUInt32 31)).toInt32) &&& 1431655765)) &&& 858993459) + ((((x0 - ((((x0).toUInt32 >>> ((1 : Int32).toUInt32 &&& Int32.toUInt32 31)).toInt32) &&& 1431655765)).toUInt32 >>> ((2 : Int32).toUInt32 &&& Int32.toUInt32 31)).toInt32) &&& 858993459)).toUInt32 >>> ((4 : Int32).toUInt32 &&& Int32.toUInt32 31)).toInt32)) &&& 252645135) + (((((((x0 - ((((x0).toUInt32 >>> ((1 : Int32).toUInt32 &&& Int32.toUInt32 31)).toInt32) &&& 1431655765)) &&& 858993459) + ((((x0 - ((((x0).toUInt32 >>> ((1 : Int32).toUInt32 &&& Int32.toUInt32 31)).toInt32) &&& 1431655765)).toUInt32 >>> ((2 : Int32).toUInt32 &&& Int32.toUInt32 31)).toInt32) &&& 858993459)) + (((((x0 - ((((x0).toUInt32 >>> ((1 : Int32).toUInt32 &&& Int32.toUInt32 31)).toInt32) &&& 1431655765)) &&& 858993459) + ((((x0 - ((((x0).toUInt32 >>> ((1 : Int32).toUInt32 &&& Int32.toUInt32 31)).toInt32) &&& 1431655765)).toUInt32 >>> ((2 : Int32).toUInt32 &&& Int32.toUInt32 31)).toInt32) &&& 858993459)).toUInt32 >>> ((4 : Int32).toUInt32 &&& Int32.toUInt32 31)).toInt32)) &&& 252645135).toUInt32 >>> ((8 : Int32).toUInt32 &&& Int32.toUInt32 31)).toInt32)) + ((((((((x0 - ((((x0).toUInt32 >>> ((1 : Int32).toUInt32 &&& Int32.toUInt32 31)).toInt32) &&& 1431655765)) &&& 858993459) + ((((x0 - ((((x0).toUInt32 >>> ((1 : Int32).toUInt32 &&& Int32.toUInt32 31)).toInt32) &&& 1431655765)).toUInt32 >>> ((2 : Int32).toUInt32 &&& Int32.toUInt32 31)).toInt32) &&& 858993459)) + (((((x0 - ((((x0).toUInt32 >>> ((1 : Int32).toUInt32 &&& Int32.toUInt32 31)).toInt32) &&& 1431655765)) &&& 858993459) + ((((x0 - ((((x0).toUInt32 >>> ((1 : Int32).toUInt32 &&& Int32.toUInt32 31)).toInt32) &&& 1431655765)).toUInt32 >>> ((2 : Int32).toUInt32 &&& Int32.toUInt32 31)).toInt32) &&& 858993459)).toUInt32 >>> ((4 : Int32).toUInt32 &&& Int32.toUInt32 31)).toInt32)) &&& 252645135) + (((((((x0 - ((((x0).toUInt32 >>> ((1 : Int32).toUInt32 &&& Int32.toUInt32 31)).toInt32) &&& 1431655765)) &&& 858993459) + ((((x0 - ((((x0).toUInt32 >>> ((1 : Int32).toUInt32 &&& Int32.toUInt32 31)).toInt32) &&& 1431655765)).toUInt32 >>> ((2 : Int32).toUInt32 &&& Int32.toUInt32 31)).toInt32) &&& 858993459)) + (((((x0 - ((((x0).toUInt32 >>> ((1 : Int32).toUInt32 &&& Int32.toUInt32 31)).toInt32) &&& 1431655765)) &&& 858993459) + ((((x0 - ((((x0).toUInt32 >>> ((1 : Int32).toUInt32 &&& Int32.toUInt32 31)).toInt32) &&& 1431655765)).toUInt32 >>> ((2 : Int32).toUInt32 &&& Int32.toUInt32 31)).toInt32) &&& 858993459)).toUInt32 >>> ((4 : Int32).toUInt32 &&& Int32.toUInt32 31)).toInt32)) &&& 252645135).toUInt32 >>> ((8 : Int32).toUInt32 &&& Int32.toUInt32 31)).toInt32)).toUInt32 >>> ((16 : Int32).toUInt32 &&& Int32.toUInt32 31)).toInt32)) &&& 63))) σ) : EvM N mJ6_bitCount_0f7a4 [.int x0] σ Q := by
  refine ev_entry rfl (Nat.le_of_ble_eq_true rfl) (lv := [(0, .int x0)]) rfl ?_
  refine ev_iload_n 0 dJ6_bitCount_0f7a4_0 rfl ?_
  refine ev_iload_n 0 dJ6_bitCount_0f7a4_1 rfl ?_
  refine ev_iconst 1 dJ6_bitCount_0f7a4_2 (by decide) ?_
  refine ev_iushr dJ6_bitCount_0f7a4_3 ?_
  refine ev_ldcw 1431655765 dJ6_bitCount_0f7a4_4 w_454 ?_
  refine ev_iand dJ6_bitCount_0f7a4_7 ?_
  refine ev_isub dJ6_bitCount_0f7a4_8 ?_
  refine ev_istore_n (lv' := [(0, .int (x0 - ((((x0).toUInt32 >>> ((1 : Int32).toUInt32 &&& Int32.toUInt32 31)).toInt32) &&& 1431655765)))]) dJ6_bitCount_0f7a4_9 (Nat.le_of_ble_eq_true rfl) rfl ?_
  refine ev_iload_n 0 dJ6_bitCount_0f7a4_10 rfl ?_
  refine ev_ldcw 858993459 dJ6_bitCount_0f7a4_11 w_455 ?_
  refine ev_iand dJ6_bitCount_0f7a4_14 ?_
  refine ev_iload_n 0 dJ6_bitCount_0f7a4_15 rfl ?_
  refine ev_iconst 2 dJ6_bitCount_0f7a4_16 (by decide) ?_
  refine ev_iushr dJ6_bitCount_0f7a4_17 ?_
  refine ev_ldcw 858993459 dJ6_bitCount_0f7a4_18 w_455 ?_
  refine ev_iand dJ6_bitCount_0f7a4_21 ?_
  refine ev_iadd dJ6_bitCount_0f7a4_22 ?_
  refine ev_istore_n (lv' := [(0, .int (((x0 - ((((x0).toUInt32 >>> ((1 : Int32).toUInt32 &&& Int32.toUInt32 31)).toInt32) &&& 1431655765)) &&& 858993459) + ((((x0 - ((((x0).toUInt32 >>> ((1 : Int32).toUInt32 &&& Int32.toUInt32 31)).toInt32) &&& 1431655765)).toUInt32 >>> ((2 : Int32).toUInt32 &&& Int32.toUInt32 31)).toInt32) &&& 858993459)))]) dJ6_bitCount_0f7a4_23 (Nat.le_of_ble_eq_true rfl) rfl ?_
  refine ev_iload_n 0 dJ6_bitCount_0f7a4_24 rfl ?_
  refine ev_iload_n 0 dJ6_bitCount_0f7a4_25 rfl ?_
  refine ev_iconst 4 dJ6_bitCount_0f7a4_26 (by decide) ?_
  refine ev_iushr dJ6_bitCount_0f7a4_27 ?_
  refine ev_iadd dJ6_bitCount_0f7a4_28 ?_
  refine ev_ldcw 252645135 dJ6_bitCount_0f7a4_29 w_456 ?_
  refine ev_iand dJ6_bitCount_0f7a4_32 ?_
  refine ev_istore_n (lv' := [(0, .int (((((x0 - ((((x0).toUInt32 >>> ((1 : Int32).toUInt32 &&& Int32.toUInt32 31)).toInt32) &&& 1431655765)) &&& 858993459) + ((((x0 - ((((x0).toUInt32 >>> ((1 : Int32).toUInt32 &&& Int32.toUInt32 31)).toInt32) &&& 1431655765)).toUInt32 >>> ((2 : Int32).toUInt32 &&& Int32.toUInt32 31)).toInt32) &&& 858993459)) + (((((x0 - ((((x0).toUInt32 >>> ((1 : Int32).toUInt32 &&& Int32.toUInt32 31)).toInt32) &&& 1431655765)) &&& 858993459) + ((((x0 - ((((x0).toUInt32 >>> ((1 : Int32).toUInt32 &&& Int32.toUInt32 31)).toInt32) &&& 1431655765)).toUInt32 >>> ((2 : Int32).toUInt32 &&& Int32.toUInt32 31)).toInt32) &&& 858993459)).toUInt32 >>> ((4 : Int32).toUInt32 &&& Int32.toUInt32 31)).toInt32)) &&& 252645135))]) dJ6_bitCount_0f7a4_33 (Nat.le_of_ble_eq_true rfl) rfl ?_
  refine ev_iload_n 0 dJ6_bitCount_0f7a4_34 rfl ?_
  refine ev_iload_n 0 dJ6_bitCount_0f7a4_35 rfl ?_
  refine ev_bipush 8 dJ6_bitCount_0f7a4_36 (by decide) ?_
  refine ev_iushr dJ6_bitCount_0f7a4_38 ?_
  refine ev_iadd dJ6_bitCount_0f7a4_39 ?_
  refine ev_istore_n (lv' := [(0, .int ((((((x0 - ((((x0).toUInt32 >>> ((1 : Int32).toUInt32 &&& Int32.toUInt32 31)).toInt32) &&& 1431655765)) &&& 858993459) + ((((x0 - ((((x0).toUInt32 >>> ((1 : Int32).toUInt32 &&& Int32.toUInt32 31)).toInt32) &&& 1431655765)).toUInt32 >>> ((2 : Int32).toUInt32 &&& Int32.toUInt32 31)).toInt32) &&& 858993459)) + (((((x0 - ((((x0).toUInt32 >>> ((1 : Int32).toUInt32 &&& Int32.toUInt32 31)).toInt32) &&& 1431655765)) &&& 858993459) + ((((x0 - ((((x0).toUInt32 >>> ((1 : Int32).toUInt32 &&& Int32.toUInt32 31)).toInt32) &&& 1431655765)).toUInt32 >>> ((2 : Int32).toUInt32 &&& Int32.toUInt32 31)).toInt32) &&& 858993459)).toUInt32 >>> ((4 : Int32).toUInt32 &&& Int32.toUInt32 31)).toInt32)) &&& 252645135) + (((((((x0 - ((((x0).toUInt32 >>> ((1 : Int32).toUInt32 &&& Int32.toUInt32 31)).toInt32) &&& 1431655765)) &&& 858993459) + ((((x0 - ((((x0).toUInt32 >>> ((1 : Int32).toUInt32 &&& Int32.toUInt32 31)).toInt32) &&& 1431655765)).toUInt32 >>> ((2 : Int32).toUInt32 &&& Int32.toUInt32 31)).toInt32) &&& 858993459)) + (((((x0 - ((((x0).toUInt32 >>> ((1 : Int32).toUInt32 &&& Int32.toUInt32 31)).toInt32) &&& 1431655765)) &&& 858993459) + ((((x0 - ((((x0).toUInt32 >>> ((1 : Int32).toUInt32 &&& Int32.toUInt32 31)).toInt32) &&& 1431655765)).toUInt32 >>> ((2 : Int32).toUInt32 &&& Int32.toUInt32 31)).toInt32) &&& 858993459)).toUInt32 >>> ((4 : Int32).toUInt32 &&& Int32.toUInt32 31)).toInt32)) &&& 252645135).toUInt32 >>> ((8 : Int32).toUInt32 &&& Int32.toUInt32 31)).toInt32)))]) dJ6_bitCount_0f7a4_40 (Nat.le_of_ble_eq_true rfl) rfl ?_
  refine ev_iload_n 0 dJ6_bitCount_0f7a4_41 rfl ?_
  refine ev_iload_n 0 dJ6_bitCount_0f7a4_42 rfl ?_
  refine ev_bipush 16 dJ6_bitCount_0f7a4_43 (by decide) ?_
  refine ev_iushr dJ6_bitCount_0f7a4_45 ?_
  refine ev_iadd dJ6_bitCount_0f7a4_46 ?_
  refine ev_istore_n (lv' := [(0, .int (((((((x0 - ((((x0).toUInt32 >>> ((1 : Int32).toUInt32 &&& Int32.toUInt32 31)).toInt32) &&& 1431655765)) &&& 858993459) + ((((x0 - ((((x0).toUInt32 >>> ((1 : Int32).toUInt32 &&& Int32.toUInt32 31)).toInt32) &&& 1431655765)).toUInt32 >>> ((2 : Int32).toUInt32 &&& Int32.toUInt32 31)).toInt32) &&& 858993459)) + (((((x0 - ((((x0).toUInt32 >>> ((1 : Int32).toUInt32 &&& Int32.toUInt32 31)).toInt32) &&& 1431655765)) &&& 858993459) + ((((x0 - ((((x0).toUInt32 >>> ((1 : Int32).toUInt32 &&& Int32.toUInt32 31)).toInt32) &&& 1431655765)).toUInt32 >>> ((2 : Int32).toUInt32 &&& Int32.toUInt32 31)).toInt32) &&& 858993459)).toUInt32 >>> ((4 : Int32).toUInt32 &&& Int32.toUInt32 31)).toInt32)) &&& 252645135) + (((((((x0 - ((((x0).toUInt32 >>> ((1 : Int32).toUInt32 &&& Int32.toUInt32 31)).toInt32) &&& 1431655765)) &&& 858993459) + ((((x0 - ((((x0).toUInt32 >>> ((1 : Int32).toUInt32 &&& Int32.toUInt32 31)).toInt32) &&& 1431655765)).toUInt32 >>> ((2 : Int32).toUInt32 &&& Int32.toUInt32 31)).toInt32) &&& 858993459)) + (((((x0 - ((((x0).toUInt32 >>> ((1 : Int32).toUInt32 &&& Int32.toUInt32 31)).toInt32) &&& 1431655765)) &&& 858993459) + ((((x0 - ((((x0).toUInt32 >>> ((1 : Int32).toUInt32 &&& Int32.toUInt32 31)).toInt32) &&& 1431655765)).toUInt32 >>> ((2 : Int32).toUInt32 &&& Int32.toUInt32 31)).toInt32) &&& 858993459)).toUInt32 >>> ((4 : Int32).toUInt32 &&& Int32.toUInt32 31)).toInt32)) &&& 252645135).toUInt32 >>> ((8 : Int32).toUInt32 &&& Int32.toUInt32 31)).toInt32)) + ((((((((x0 - ((((x0).toUInt32 >>> ((1 : Int32).toUInt32 &&& Int32.toUInt32 31)).toInt32) &&& 1431655765)) &&& 858993459) + ((((x0 - ((((x0).toUInt32 >>> ((1 : Int32).toUInt32 &&& Int32.toUInt32 31)).toInt32) &&& 1431655765)).toUInt32 >>> ((2 : Int32).toUInt32 &&& Int32.toUInt32 31)).toInt32) &&& 858993459)) + (((((x0 - ((((x0).toUInt32 >>> ((1 : Int32).toUInt32 &&& Int32.toUInt32 31)).toInt32) &&& 1431655765)) &&& 858993459) + ((((x0 - ((((x0).toUInt32 >>> ((1 : Int32).toUInt32 &&& Int32.toUInt32 31)).toInt32) &&& 1431655765)).toUInt32 >>> ((2 : Int32).toUInt32 &&& Int32.toUInt32 31)).toInt32) &&& 858993459)).toUInt32 >>> ((4 : Int32).toUInt32 &&& Int32.toUInt32 31)).toInt32)) &&& 252645135) + (((((((x0 - ((((x0).toUInt32 >>> ((1 : Int32).toUInt32 &&& Int32.toUInt32 31)).toInt32) &&& 1431655765)) &&& 858993459) + ((((x0 - ((((x0).toUInt32 >>> ((1 : Int32).toUInt32 &&& Int32.toUInt32 31)).toInt32) &&& 1431655765)).toUInt32 >>> ((2 : Int32).toUInt32 &&& Int32.toUInt32 31)).toInt32) &&& 858993459)) + (((((x0 - ((((x0).toUInt32 >>> ((1 : Int32).toUInt32 &&& Int32.toUInt32 31)).toInt32) &&& 1431655765)) &&& 858993459) + ((((x0 - ((((x0).toUInt32 >>> ((1 : Int32).toUInt32 &&& Int32.toUInt32 31)).toInt32) &&& 1431655765)).toUInt32 >>> ((2 : Int32).toUInt32 &&& Int32.toUInt32 31)).toInt32) &&& 858993459)).toUInt32 >>> ((4 : Int32).toUInt32 &&& Int32.toUInt32 31)).toInt32)) &&& 252645135).toUInt32 >>> ((8 : Int32).toUInt32 &&& Int32.toUInt32 31)).toInt32)).toUInt32 >>> ((16 : Int32).toUInt32 &&& Int32.toUInt32 31)).toInt32)))]) dJ6_bitCount_0f7a4_47 (Nat.le_of_ble_eq_true rfl) rfl ?_
  refine ev_iload_n 0 dJ6_bitCount_0f7a4_48 rfl ?_
  refine ev_bipush 63 dJ6_bitCount_0f7a4_49 (by decide) ?_
  refine ev_iand dJ6_bitCount_0f7a4_51 ?_
  exact ev_iret rfl dJ6_bitCount_0f7a4_52 h
