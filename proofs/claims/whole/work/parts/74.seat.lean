/-! ===== seat, printed by gen_seat.py ===== -/
set_option maxRecDepth 100000 in
theorem w_749 : (Jvm.Cond.methodLink "UnreadScript$Kinship" (113 : Nat) ({ cls := "UnreadScript$Kinship", name := "keep", desc := "(I)V" } : Jvm.MethodName)) ∈ TB := lw_in (i := 749) (by decide +kernel) rfl
set_option maxRecDepth 100000 in
theorem w_753 : (Jvm.Cond.methodLink "UnreadScript$Kinship" (117 : Nat) ({ cls := "UnreadScript$Kinship", name := "quarrelOf", desc := "(I)I" } : Jvm.MethodName)) ∈ TB := lw_in (i := 753) (by decide +kernel) rfl
abbrev KX3_seat_32 (N : Nat) (σ : Sg) (Q : Option Value → Sg → Prop) (x1 : Int32) (x2 : Int32) (x3 : Int32) (x4 : Int32) : Prop := Ev (N + 1) mX3_seat 32 [(0, .ref 22), (1, .int x1), (2, .int x2), (3, .int x3), (4, .int x4)] [] σ Q
theorem EX3_seat {N : Nat} {σ : Sg} {Q : Option Value → Sg → Prop} {x1 : Int32} {x2 : Int32} {x3 : Int32} (h : (x3 < (σ.1 22 10) → ((σ.1 22 9) ≤ x2 → EvM N mX3_keep [.ref 22, .int x3] σ (fun r9 σ1 => r9 = none ∧ (Q none σ1))) ∧ (¬ (σ.1 22 9) ≤ x2 → (x2 < 8 → KX3_seat_32 N σ Q x1 x2 x3 0) ∧ (¬ x2 < 8 → EvM N mX3_keep [.ref 22, .int x3] σ (fun r9 σ2 => r9 = none ∧ (Q none σ2))))) ∧ (¬ x3 < (σ.1 22 10) → Q none σ)) : EvM (N + 1) mX3_seat [.ref 22, .int x1, .int x2, .int x3] σ Q := by
  refine ev_entry rfl (Nat.le_of_ble_eq_true rfl) (lv := [(0, .ref 22), (1, .int x1), (2, .int x2), (3, .int x3)]) rfl ?_
  refine ev_iload_n 3 dX3_seat_0 rfl ?_
  refine ev_aload_n 0 dX3_seat_1 rfl ?_
  refine ev_get G3 lay_22 (k := 10) rfl (Nat.le_of_ble_eq_true rfl) dX3_seat_2 w_227 ?_
  refine ev_icmp_lt 9 dX3_seat_5 (by decide) (fun c9 => ?_) (fun c9 => ?_)
  · replace h := h.1 c9
    refine ev_iload_n 2 dX3_seat_9 rfl ?_
    refine ev_aload_n 0 dX3_seat_10 rfl ?_
    refine ev_get G3 lay_22 (k := 9) rfl (Nat.le_of_ble_eq_true rfl) dX3_seat_11 w_226 ?_
    refine ev_icmp_ge 23 dX3_seat_14 (by decide) (fun c9 => ?_) (fun c9 => ?_)
    · replace h := h.1 c9
      refine ev_aload_n 0 dX3_seat_23 rfl ?_
      refine ev_iload_n 3 dX3_seat_24 rfl ?_
      refine ev_callV (M' := mX3_keep) [.int x3] vX3_keep G3 lay_22 dX3_seat_25 w_749 rfl rfl (Nat.le_of_ble_eq_true rfl) h ?_
      rintro r9 σ1 ⟨rfl, h⟩
      exact ev_vret rfl dX3_seat_28 h
    · replace h := h.2 c9
      refine ev_iload_n 2 dX3_seat_17 rfl ?_
      refine ev_bipush 8 dX3_seat_18 (by decide) ?_
      refine ev_icmp_lt 29 dX3_seat_20 (by decide) (fun c9 => ?_) (fun c9 => ?_)
      · replace h := h.1 c9
        refine ev_iconst 0 dX3_seat_29 (by decide) ?_
        refine ev_istore (lv' := [(4, .int 0), (0, .ref 22), (1, .int x1), (2, .int x2), (3, .int x3)]) dX3_seat_30 (Nat.le_of_ble_eq_true rfl) rfl ?_
        refine ev_sub [1, 2, 3, 4, 0] rfl ?_
        exact h
      · replace h := h.2 c9
        refine ev_aload_n 0 dX3_seat_23 rfl ?_
        refine ev_iload_n 3 dX3_seat_24 rfl ?_
        refine ev_callV (M' := mX3_keep) [.int x3] vX3_keep G3 lay_22 dX3_seat_25 w_749 rfl rfl (Nat.le_of_ble_eq_true rfl) h ?_
        rintro r9 σ2 ⟨rfl, h⟩
        exact ev_vret rfl dX3_seat_28 h
  · replace h := h.2 c9
    exact ev_vret rfl dX3_seat_8 h
theorem BX3_seat_32 {N : Nat} {σ : Sg} {Q : Option Value → Sg → Prop} {x1 : Int32} {x2 : Int32} {x3 : Int32} {x4 : Int32} (h : (x1 ≤ x4 → Q none σ) ∧ (¬ x1 ≤ x4 → vp_in x2 8 ∧ (EvM N mX3_quarrelOf [.ref 22, .int x2] (u1 σ 100 (x2).toNatClampNeg x4) (fun r9 σ3 => ∃ v3, r9 = some (.int v3) ∧ (EvM N mX3_seat [.ref 22, .int x1, .int (x2 + 1), .int (x3 + v3)] σ3 (fun r9 σ4 => r9 = none ∧ (KX3_seat_32 N σ4 Q x1 x2 x3 (x4 + 1)))))))) : KX3_seat_32 N σ Q x1 x2 x3 x4 := by
  refine ev_iload 4 dX3_seat_32 rfl ?_
  refine ev_iload_n 1 dX3_seat_34 rfl ?_
  refine ev_icmp_ge 67 dX3_seat_35 (by decide) (fun c9 => ?_) (fun c9 => ?_)
  · replace h := h.1 c9
    exact ev_vret rfl dX3_seat_67 h
  · replace h := h.2 c9
    refine ev_aload_n 0 dX3_seat_38 rfl ?_
    refine ev_getR (r := 100) G3 lay_22 (k := 7) rfl (Nat.le_of_ble_eq_true rfl) dX3_seat_39 w_224 ?_
    refine ev_iload_n 2 dX3_seat_42 rfl ?_
    refine ev_iload 4 dX3_seat_43 rfl ?_
    have hb45 := h.1
    replace h := h.2
    refine ev_iast lay_100 (Nat.le_of_ble_eq_true rfl) hb45 dX3_seat_45 ?_
    refine ev_aload_n 0 dX3_seat_46 rfl ?_
    refine ev_iload_n 1 dX3_seat_47 rfl ?_
    refine ev_iload_n 2 dX3_seat_48 rfl ?_
    refine ev_iconst 1 dX3_seat_49 (by decide) ?_
    refine ev_iadd dX3_seat_50 ?_
    refine ev_iload_n 3 dX3_seat_51 rfl ?_
    refine ev_aload_n 0 dX3_seat_52 rfl ?_
    refine ev_iload_n 2 dX3_seat_53 rfl ?_
    refine ev_callV (M' := mX3_quarrelOf) [.int x2] vX3_quarrelOf G3 lay_22 dX3_seat_54 w_753 rfl rfl (Nat.le_of_ble_eq_true rfl) h ?_
    rintro r9 σ3 ⟨v3, rfl, h⟩
    refine ev_iadd dX3_seat_57 ?_
    refine ev_callS (M' := mX3_seat) [.ref 22, .int x1, .int (x2 + 1), .int (x3 + v3)] vX3_seat dX3_seat_58 w_746 rfl rfl (Nat.le_of_ble_eq_true rfl) h ?_
    rintro r9 σ4 ⟨rfl, h⟩
    refine ev_iinc (lv' := [(4, .int (x4 + 1)), (0, .ref 22), (1, .int x1), (2, .int x2), (3, .int x3)]) (x4 + 1) 4 dX3_seat_61 rfl rfl (Nat.le_of_ble_eq_true rfl) rfl ?_
    refine ev_goto 32 dX3_seat_64 (by decide) ?_
    refine ev_sub [1, 2, 3, 4, 0] rfl ?_
    exact h
