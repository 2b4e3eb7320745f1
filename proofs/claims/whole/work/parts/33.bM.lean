abbrev KX10_bits_4 (N : Nat) (σ : Sg) (Q : Option Value → Sg → Prop) (x0 : Int32) (x1 : Int32) (x2 : Int32) : Prop := Ev N mX10_bits 4 [(0, .int x0), (1, .int x1), (2, .int x2)] [] σ Q
theorem EX10_bits {N : Nat} {σ : Sg} {Q : Option Value → Sg → Prop} {x0 : Int32} (h : KX10_bits_4 N σ Q x0 0 0) : EvM N mX10_bits [.int x0] σ Q := by
  refine ev_entry rfl (Nat.le_of_ble_eq_true rfl) (lv := [(0, .int x0)]) rfl ?_
  refine ev_iconst 0 dX10_bits_0 (by decide) ?_
  refine ev_istore_n (lv' := [(1, .int 0), (0, .int x0)]) dX10_bits_1 (Nat.le_of_ble_eq_true rfl) rfl ?_
  refine ev_iconst 0 dX10_bits_2 (by decide) ?_
  refine ev_istore_n (lv' := [(2, .int 0), (1, .int 0), (0, .int x0)]) dX10_bits_3 (Nat.le_of_ble_eq_true rfl) rfl ?_
  refine ev_sub [2, 1, 0] rfl ?_
  exact h
theorem BX10_bits_4 {N : Nat} {σ : Sg} {Q : Option Value → Sg → Prop} {x0 : Int32} {x1 : Int32} {x2 : Int32} (h : (24 ≤ x2 → Q (some (.int x1)) σ) ∧ (¬ 24 ≤ x2 → KX10_bits_4 N σ Q x0 (x1 + ((x0 >>> (x2 &&& 31)) &&& 1)) (x2 + 1))) : KX10_bits_4 N σ Q x0 x1 x2 := by
  refine ev_iload_n 2 dX10_bits_4 rfl ?_
  refine ev_bipush 24 dX10_bits_5 (by decide) ?_
  refine ev_icmp_ge 24 dX10_bits_7 (by decide) (fun c9 => ?_) (fun c9 => ?_)
  · replace h := h.1 c9
    refine ev_iload_n 1 dX10_bits_24 rfl ?_
    exact ev_iret rfl dX10_bits_25 h
  · replace h := h.2 c9
    refine ev_iload_n 1 dX10_bits_10 rfl ?_
    refine ev_iload_n 0 dX10_bits_11 rfl ?_
    refine ev_iload_n 2 dX10_bits_12 rfl ?_
    refine ev_ishr dX10_bits_13 ?_
    refine ev_iconst 1 dX10_bits_14 (by decide) ?_
    refine ev_iand dX10_bits_15 ?_
    refine ev_iadd dX10_bits_16 ?_
    refine ev_istore_n (lv' := [(1, .int (x1 + ((x0 >>> (x2 &&& 31)) &&& 1))), (0, .int x0), (2, .int x2)]) dX10_bits_17 (Nat.le_of_ble_eq_true rfl) rfl ?_
    refine ev_iinc (lv' := [(2, .int (x2 + 1)), (1, .int (x1 + ((x0 >>> (x2 &&& 31)) &&& 1))), (0, .int x0)]) (x2 + 1) 2 dX10_bits_18 rfl rfl (Nat.le_of_ble_eq_true rfl) rfl ?_
    refine ev_goto 4 dX10_bits_21 (by decide) ?_
    refine ev_sub [2, 1, 0] rfl ?_
    exact h
theorem EX10_isForm {N : Nat} {σ : Sg} {Q : Option Value → Sg → Prop} {x1 : Int32} (h : ((0 ≤ ((x1).toInt64).toInt ∧ ((x1).toInt64).toInt ≤ (((σ.1 245 0) - 1).toInt64).toInt) → Q (some (.int 1)) σ) ∧ (¬ (0 ≤ ((x1).toInt64).toInt ∧ ((x1).toInt64).toInt ≤ (((σ.1 245 0) - 1).toInt64).toInt) → Q (some (.int 0)) σ)) : EvM (N + 1) mX10_isForm [.ref 245, .int x1] σ Q := by
  refine ev_entry rfl (Nat.le_of_ble_eq_true rfl) (lv := [(0, .ref 245), (1, .int x1)]) rfl ?_
  refine ev_iload_n 1 dX10_isForm_0 rfl ?_
  refine ev_i2l dX10_isForm_1 ?_
  refine ev_lconst 0 dX10_isForm_2 (by decide) ?_
  refine ev_aload_n 0 dX10_isForm_3 rfl ?_
  refine ev_get G10 lay_245 (k := 0) rfl (Nat.le_of_ble_eq_true rfl) dX10_isForm_4 w_1226 ?_
  refine ev_iconst 1 dX10_isForm_7 (by decide) ?_
  refine ev_isub dX10_isForm_8 ?_
  refine ev_i2l dX10_isForm_9 ?_
  refine ev_callS (M' := mX10_in) [.long ((x1).toInt64), .long 0, .long (((σ.1 245 0) - 1).toInt64)] vX10_in dX10_isForm_10 w_1421 rfl rfl (Nat.le_of_ble_eq_true rfl) (C10_in (P := 0 ≤ ((x1).toInt64).toInt ∧ ((x1).toInt64).toInt ≤ (((σ.1 245 0) - 1).toInt64).toInt) (by (try simp only [i_l]); exact Iff.rfl) (Q := fun r9 s9 => σ = s9 ∧ ((r9 = some (.int 1) ∧ (0 ≤ ((x1).toInt64).toInt ∧ ((x1).toInt64).toInt ≤ (((σ.1 245 0) - 1).toInt64).toInt)) ∨ (r9 = some (.int 0) ∧ ¬ (0 ≤ ((x1).toInt64).toInt ∧ ((x1).toInt64).toInt ≤ (((σ.1 245 0) - 1).toInt64).toInt)))) ⟨fun c9 => ⟨rfl, Or.inl ⟨rfl, c9⟩⟩, fun c9 => ⟨rfl, Or.inr ⟨rfl, c9⟩⟩⟩) ?_
  rintro r9 s9 ⟨rfl, ⟨rfl, c9⟩ | ⟨rfl, c9⟩⟩
  · replace h := h.1 c9
    exact ev_zret (ty := .boolean) rfl (by rfl) dX10_isForm_13 h
  · replace h := h.2 c9
    exact ev_zret (ty := .boolean) rfl (by rfl) dX10_isForm_13 h
theorem EX10_form {N : Nat} {σ : Sg} {Q : Option Value → Sg → Prop} {x1 : Int32} (h : ((0 ≤ ((x1).toInt64).toInt ∧ ((x1).toInt64).toInt ≤ 4095) → ((σ.1 245 0) = 24 → Q (some (.int (-3))) σ) ∧ (¬ (σ.1 245 0) = 24 → vp_in (σ.1 245 0) 24 ∧ (Q (some (.int (((u1 (u1 σ 246 (σ.1 245 0).toNatClampNeg x1) 245 0 (((u1 σ 246 (σ.1 245 0).toNatClampNeg x1).1 245 0) + 1)).1 245 0) - 1))) (u1 (u1 σ 246 (σ.1 245 0).toNatClampNeg x1) 245 0 (((u1 σ 246 (σ.1 245 0).toNatClampNeg x1).1 245 0) + 1))))) ∧ (¬ (0 ≤ ((x1).toInt64).toInt ∧ ((x1).toInt64).toInt ≤ 4095) → Q (some (.int (-1))) σ)) : EvM (N + 1) mX10_form [.ref 245, .int x1] σ Q := by
  refine ev_entry rfl (Nat.le_of_ble_eq_true rfl) (lv := [(0, .ref 245), (1, .int x1)]) rfl ?_
  refine ev_iload_n 1 dX10_form_0 rfl ?_
  refine ev_i2l dX10_form_1 ?_
  refine ev_lconst 0 dX10_form_2 (by decide) ?_
  refine ev_ldc2 4095 dX10_form_3 w_1420 ?_
  refine ev_callS (M' := mX10_in) [.long ((x1).toInt64), .long 0, .long 4095] vX10_in dX10_form_6 w_1421 rfl rfl (Nat.le_of_ble_eq_true rfl) (C10_in (P := 0 ≤ ((x1).toInt64).toInt ∧ ((x1).toInt64).toInt ≤ 4095) (by (try simp only [i_l]); exact Iff.rfl) (Q := fun r9 s9 => σ = s9 ∧ ((r9 = some (.int 1) ∧ (0 ≤ ((x1).toInt64).toInt ∧ ((x1).toInt64).toInt ≤ 4095)) ∨ (r9 = some (.int 0) ∧ ¬ (0 ≤ ((x1).toInt64).toInt ∧ ((x1).toInt64).toInt ≤ 4095)))) ⟨fun c9 => ⟨rfl, Or.inl ⟨rfl, c9⟩⟩, fun c9 => ⟨rfl, Or.inr ⟨rfl, c9⟩⟩⟩) ?_
  rintro r9 s9 ⟨rfl, ⟨rfl, c9⟩ | ⟨rfl, c9⟩⟩
  · replace h := h.1 c9
    refine ev_if_ne 14 dX10_form_9 (by decide) (fun c9 => ?_) (fun c9 => ?_)
    · refine ev_aload_n 0 dX10_form_14 rfl ?_
      refine ev_get G10 lay_245 (k := 0) rfl (Nat.le_of_ble_eq_true rfl) dX10_form_15 w_1226 ?_
      refine ev_bipush 24 dX10_form_18 (by decide) ?_
      refine ev_icmp_ne 26 dX10_form_20 (by decide) (fun c9 => ?_) (fun c9 => ?_)
      · replace h := h.2 c9
        refine ev_aload_n 0 dX10_form_26 rfl ?_
        refine ev_getR (r := 246) G10 lay_245 (k := 1) rfl (Nat.le_of_ble_eq_true rfl) dX10_form_27 w_1227 ?_
        refine ev_aload_n 0 dX10_form_30 rfl ?_
        refine ev_get G10 lay_245 (k := 0) rfl (Nat.le_of_ble_eq_true rfl) dX10_form_31 w_1226 ?_
        refine ev_iload_n 1 dX10_form_34 rfl ?_
        have hb35 := h.1
        replace h := h.2
        refine ev_iast lay_246 (Nat.le_of_ble_eq_true rfl) hb35 dX10_form_35 ?_
        refine ev_aload_n 0 dX10_form_36 rfl ?_
        refine ev_dup dX10_form_37 rfl ?_
        refine ev_get G10 lay_245 (k := 0) rfl (Nat.le_of_ble_eq_true rfl) dX10_form_38 w_1226 ?_
        refine ev_iconst 1 dX10_form_41 (by decide) ?_
        refine ev_iadd dX10_form_42 ?_
        refine ev_put G10 lay_245 (k := 0) rfl (Nat.le_of_ble_eq_true rfl) rfl (by decide +kernel) dX10_form_43 w_1226 ?_
        refine ev_aload_n 0 dX10_form_46 rfl ?_
        refine ev_get G10 lay_245 (k := 0) rfl (Nat.le_of_ble_eq_true rfl) dX10_form_47 w_1226 ?_
        refine ev_iconst 1 dX10_form_50 (by decide) ?_
        refine ev_isub dX10_form_51 ?_
        exact ev_iret rfl dX10_form_52 h
      · replace h := h.1 c9
        refine ev_bipush (-3) dX10_form_23 (by decide) ?_
        exact ev_iret rfl dX10_form_25 h
    · exact absurd c9 (by decide)
  · replace h := h.2 c9
    refine ev_if_ne 14 dX10_form_9 (by decide) (fun c9 => ?_) (fun c9 => ?_)
    · exact absurd c9 (by decide)
    · refine ev_iconst (-1) dX10_form_12 (by decide) ?_
      exact ev_iret rfl dX10_form_13 h
theorem EX10_likeness {N : Nat} {σ : Sg} {Q : Option Value → Sg → Prop} {x1 : Int32} (h : ((0 ≤ ((x1).toInt64).toInt ∧ ((x1).toInt64).toInt ≤ 12) → Q (some (.int (σ.1 245 2))) (u1 σ 245 2 x1)) ∧ (¬ (0 ≤ ((x1).toInt64).toInt ∧ ((x1).toInt64).toInt ≤ 12) → Q (some (.int (-1))) σ)) : EvM (N + 1) mX10_likeness [.ref 245, .int x1] σ Q := by
  refine ev_entry rfl (Nat.le_of_ble_eq_true rfl) (lv := [(0, .ref 245), (1, .int x1)]) rfl ?_
  refine ev_iload_n 1 dX10_likeness_0 rfl ?_
  refine ev_i2l dX10_likeness_1 ?_
  refine ev_lconst 0 dX10_likeness_2 (by decide) ?_
  refine ev_ldc2 12 dX10_likeness_3 w_1428 ?_
  refine ev_callS (M' := mX10_in) [.long ((x1).toInt64), .long 0, .long 12] vX10_in dX10_likeness_6 w_1421 rfl rfl (Nat.le_of_ble_eq_true rfl) (C10_in (P := 0 ≤ ((x1).toInt64).toInt ∧ ((x1).toInt64).toInt ≤ 12) (by (try simp only [i_l]); exact Iff.rfl) (Q := fun r9 s9 => σ = s9 ∧ ((r9 = some (.int 1) ∧ (0 ≤ ((x1).toInt64).toInt ∧ ((x1).toInt64).toInt ≤ 12)) ∨ (r9 = some (.int 0) ∧ ¬ (0 ≤ ((x1).toInt64).toInt ∧ ((x1).toInt64).toInt ≤ 12)))) ⟨fun c9 => ⟨rfl, Or.inl ⟨rfl, c9⟩⟩, fun c9 => ⟨rfl, Or.inr ⟨rfl, c9⟩⟩⟩) ?_
  rintro r9 s9 ⟨rfl, ⟨rfl, c9⟩ | ⟨rfl, c9⟩⟩
  · replace h := h.1 c9
    refine ev_if_ne 14 dX10_likeness_9 (by decide) (fun c9 => ?_) (fun c9 => ?_)
    · refine ev_aload_n 0 dX10_likeness_14 rfl ?_
      refine ev_get G10 lay_245 (k := 2) rfl (Nat.le_of_ble_eq_true rfl) dX10_likeness_15 w_1228 ?_
      refine ev_istore_n (lv' := [(2, .int (σ.1 245 2)), (0, .ref 245), (1, .int x1)]) dX10_likeness_18 (Nat.le_of_ble_eq_true rfl) rfl ?_
      refine ev_aload_n 1 dX10_likeness_19 rfl ?_
      refine ev_iload_n 2 dX10_likeness_20 rfl ?_
      refine ev_put G10 lay_245 (k := 2) rfl (Nat.le_of_ble_eq_true rfl) rfl (by decide +kernel) dX10_likeness_21 w_1228 ?_
      refine ev_iload_n 0 dX10_likeness_24 rfl ?_
      exact ev_iret rfl dX10_likeness_25 h
    · exact absurd c9 (by decide)
  · replace h := h.2 c9
    refine ev_if_ne 14 dX10_likeness_9 (by decide) (fun c9 => ?_) (fun c9 => ?_)
    · exact absurd c9 (by decide)
    · refine ev_iconst (-1) dX10_likeness_12 (by decide) ?_
      exact ev_iret rfl dX10_likeness_13 h
abbrev KX10_findSigns_2 (N : Nat) (σ : Sg) (Q : Option Value → Sg → Prop) (x1 : Int32) (x2 : Int32) : Prop := Ev (N + 1) mX10_findSigns 2 [(0, .ref 245), (1, .int x1), (2, .int x2)] [] σ Q
abbrev KX10_findSigns_25 (N : Nat) (σ : Sg) (Q : Option Value → Sg → Prop) (x1 : Int32) (x2 : Int32) : Prop := Ev (N + 1) mX10_findSigns 25 [(0, .ref 245), (1, .int x1), (2, .int x2)] [] σ Q
abbrev KX10_findSigns_35 (N : Nat) (σ : Sg) (Q : Option Value → Sg → Prop) (x1 : Int32) (x2 : Int32) (x3 : Int32) : Prop := Ev (N + 1) mX10_findSigns 35 [(0, .ref 245), (1, .int x1), (2, .int x2), (3, .int x3)] [] σ Q
abbrev KX10_findSigns_128 (N : Nat) (σ : Sg) (Q : Option Value → Sg → Prop) (x1 : Int32) (x2 : Int32) (x3 : Int32) (x4 : Int32) (x5 : Int32) (x6 : Int32) : Prop := Ev (N + 1) mX10_findSigns 128 [(0, .ref 245), (1, .int x1), (2, .int x2), (3, .int x3), (4, .int x4), (5, .int x5), (6, .int x6)] [] σ Q
theorem EX10_findSigns {N : Nat} {σ : Sg} {Q : Option Value → Sg → Prop} {x1 : Int32} (h : KX10_findSigns_2 N σ Q x1 0) : EvM (N + 1) mX10_findSigns [.ref 245, .int x1] σ Q := by
  refine ev_entry rfl (Nat.le_of_ble_eq_true rfl) (lv := [(0, .ref 245), (1, .int x1)]) rfl ?_
  refine ev_iconst 0 dX10_findSigns_0 (by decide) ?_
  refine ev_istore_n (lv' := [(2, .int 0), (0, .ref 245), (1, .int x1)]) dX10_findSigns_1 (Nat.le_of_ble_eq_true rfl) rfl ?_
  refine ev_sub [1, 2, 0] rfl ?_
  exact h
theorem BX10_findSigns_2 {N : Nat} {σ : Sg} {Q : Option Value → Sg → Prop} {x1 : Int32} {x2 : Int32} (h : ((σ.1 245 0) ≤ x2 → KX10_findSigns_25 N σ Q x1 0) ∧ (¬ (σ.1 245 0) ≤ x2 → vp_in x2 24 ∧ (KX10_findSigns_2 N (u1 σ 247 (x2).toNatClampNeg x2) Q x1 (x2 + 1)))) : KX10_findSigns_2 N σ Q x1 x2 := by
  refine ev_iload_n 2 dX10_findSigns_2 rfl ?_
  refine ev_aload_n 0 dX10_findSigns_3 rfl ?_
  refine ev_get G10 lay_245 (k := 0) rfl (Nat.le_of_ble_eq_true rfl) dX10_findSigns_4 w_1226 ?_
  refine ev_icmp_ge 23 dX10_findSigns_7 (by decide) (fun c9 => ?_) (fun c9 => ?_)
  · replace h := h.1 c9
    refine ev_iconst 0 dX10_findSigns_23 (by decide) ?_
    refine ev_istore_n (lv' := [(2, .int 0), (0, .ref 245), (1, .int x1)]) dX10_findSigns_24 (Nat.le_of_ble_eq_true rfl) rfl ?_
    refine ev_sub [1, 2, 0] rfl ?_
    exact h
  · replace h := h.2 c9
    refine ev_aload_n 0 dX10_findSigns_10 rfl ?_
    refine ev_getR (r := 247) G10 lay_245 (k := 3) rfl (Nat.le_of_ble_eq_true rfl) dX10_findSigns_11 w_1229 ?_
    refine ev_iload_n 2 dX10_findSigns_14 rfl ?_
    refine ev_iload_n 2 dX10_findSigns_15 rfl ?_
    have hb16 := h.1
    replace h := h.2
    refine ev_iast lay_247 (Nat.le_of_ble_eq_true rfl) hb16 dX10_findSigns_16 ?_
    refine ev_iinc (lv' := [(2, .int (x2 + 1)), (0, .ref 245), (1, .int x1)]) (x2 + 1) 2 dX10_findSigns_17 rfl rfl (Nat.le_of_ble_eq_true rfl) rfl ?_
    refine ev_goto 2 dX10_findSigns_20 (by decide) ?_
    refine ev_sub [1, 2, 0] rfl ?_
    exact h
theorem BX10_findSigns_25 {N : Nat} {σ : Sg} {Q : Option Value → Sg → Prop} {x1 : Int32} {x2 : Int32} (h : ((σ.1 245 0) ≤ x2 → Q none σ) ∧ (¬ (σ.1 245 0) ≤ x2 → KX10_findSigns_35 N σ Q x1 x2 0)) : KX10_findSigns_25 N σ Q x1 x2 := by
  refine ev_iload_n 2 dX10_findSigns_25 rfl ?_
  refine ev_aload_n 0 dX10_findSigns_26 rfl ?_
  refine ev_get G10 lay_245 (k := 0) rfl (Nat.le_of_ble_eq_true rfl) dX10_findSigns_27 w_1226 ?_
  refine ev_icmp_ge 186 dX10_findSigns_30 (by decide) (fun c9 => ?_) (fun c9 => ?_)
  · replace h := h.1 c9
    exact ev_vret rfl dX10_findSigns_186 h
  · replace h := h.2 c9
    refine ev_iconst 0 dX10_findSigns_33 (by decide) ?_
    refine ev_istore_n (lv' := [(3, .int 0), (0, .ref 245), (1, .int x1), (2, .int x2)]) dX10_findSigns_34 (Nat.le_of_ble_eq_true rfl) rfl ?_
    refine ev_sub [1, 2, 3, 0] rfl ?_
    exact h
theorem BX10_findSigns_35 {N : Nat} {σ : Sg} {Q : Option Value → Sg → Prop} {x1 : Int32} {x2 : Int32} {x3 : Int32} (h : (x2 ≤ x3 → KX10_findSigns_25 N σ Q x1 (x2 + 1)) ∧ (¬ x2 ≤ x3 → vp_in x2 24 ∧ (vp_in x3 24 ∧ (EvM N mX10_bits [.int ((σ.1 246 (x2).toNatClampNeg) ^^^ (σ.1 246 (x3).toNatClampNeg))] σ (fun r9 σ1 => ∃ v1, r9 = some (.int v1) ∧ ((x1 < v1 → KX10_findSigns_35 N σ1 Q x1 x2 (x3 + 1)) ∧ (¬ x1 < v1 → vp_in x2 24 ∧ (vp_in x3 24 ∧ (((σ1.1 247 (x2).toNatClampNeg) = (σ1.1 247 (x3).toNatClampNeg) → KX10_findSigns_35 N σ1 Q x1 x2 (x3 + 1)) ∧ (¬ (σ1.1 247 (x2).toNatClampNeg) = (σ1.1 247 (x3).toNatClampNeg) → vp_in x2 24 ∧ (vp_in x3 24 ∧ (((σ1.1 247 (x3).toNatClampNeg) ≤ (σ1.1 247 (x2).toNatClampNeg) → vp_in x3 24 ∧ (vp_in x2 24 ∧ (vp_in x3 24 ∧ (KX10_findSigns_128 N σ1 Q x1 x2 x3 (σ1.1 247 (x3).toNatClampNeg) (((σ1.1 247 (x2).toNatClampNeg) + (σ1.1 247 (x3).toNatClampNeg)) - (σ1.1 247 (x3).toNatClampNeg)) 0)))) ∧ (¬ (σ1.1 247 (x3).toNatClampNeg) ≤ (σ1.1 247 (x2).toNatClampNeg) → vp_in x2 24 ∧ (vp_in x2 24 ∧ (vp_in x3 24 ∧ (KX10_findSigns_128 N σ1 Q x1 x2 x3 (σ1.1 247 (x2).toNatClampNeg) (((σ1.1 247 (x2).toNatClampNeg) + (σ1.1 247 (x3).toNatClampNeg)) - (σ1.1 247 (x2).toNatClampNeg)) 0)))))))))))))))) : KX10_findSigns_35 N σ Q x1 x2 x3 := by
  refine ev_iload_n 3 dX10_findSigns_35 rfl ?_
  refine ev_iload_n 2 dX10_findSigns_36 rfl ?_
  refine ev_icmp_ge 180 dX10_findSigns_37 (by decide) (fun c9 => ?_) (fun c9 => ?_)
  · replace h := h.1 c9
    refine ev_iinc (lv' := [(2, .int (x2 + 1)), (0, .ref 245), (1, .int x1), (3, .int x3)]) (x2 + 1) 2 dX10_findSigns_180 rfl rfl (Nat.le_of_ble_eq_true rfl) rfl ?_
    refine ev_goto 25 dX10_findSigns_183 (by decide) ?_
    refine ev_sub [1, 2, 0] rfl ?_
    exact h
  · replace h := h.2 c9
    refine ev_aload_n 0 dX10_findSigns_40 rfl ?_
    refine ev_getR (r := 246) G10 lay_245 (k := 1) rfl (Nat.le_of_ble_eq_true rfl) dX10_findSigns_41 w_1227 ?_
    refine ev_iload_n 2 dX10_findSigns_44 rfl ?_
    have hb45 := h.1
    replace h := h.2
    refine ev_iald lay_246 (Nat.le_of_ble_eq_true rfl) hb45 dX10_findSigns_45 ?_
    refine ev_aload_n 0 dX10_findSigns_46 rfl ?_
    refine ev_getR (r := 246) G10 lay_245 (k := 1) rfl (Nat.le_of_ble_eq_true rfl) dX10_findSigns_47 w_1227 ?_
    refine ev_iload_n 3 dX10_findSigns_50 rfl ?_
    have hb51 := h.1
    replace h := h.2
    refine ev_iald lay_246 (Nat.le_of_ble_eq_true rfl) hb51 dX10_findSigns_51 ?_
    refine ev_ixor dX10_findSigns_52 ?_
    refine ev_callS (M' := mX10_bits) [.int ((σ.1 246 (x2).toNatClampNeg) ^^^ (σ.1 246 (x3).toNatClampNeg))] vX10_bits dX10_findSigns_53 w_1437 rfl rfl (Nat.le_of_ble_eq_true rfl) h ?_
    rintro r9 σ1 ⟨v1, rfl, h⟩
    refine ev_iload_n 1 dX10_findSigns_56 rfl ?_
    refine ev_icmp_gt 174 dX10_findSigns_57 (by decide) (fun c9 => ?_) (fun c9 => ?_)
    · replace h := h.1 c9
      refine ev_iinc (lv' := [(3, .int (x3 + 1)), (0, .ref 245), (1, .int x1), (2, .int x2)]) (x3 + 1) 3 dX10_findSigns_174 rfl rfl (Nat.le_of_ble_eq_true rfl) rfl ?_
      refine ev_goto 35 dX10_findSigns_177 (by decide) ?_
      refine ev_sub [1, 2, 3, 0] rfl ?_
      exact h
    · replace h := h.2 c9
      refine ev_aload_n 0 dX10_findSigns_60 rfl ?_
      refine ev_getR (r := 247) G10 lay_245 (k := 3) rfl (Nat.le_of_ble_eq_true rfl) dX10_findSigns_61 w_1229 ?_
      refine ev_iload_n 2 dX10_findSigns_64 rfl ?_
      have hb65 := h.1
      replace h := h.2
      refine ev_iald lay_247 (Nat.le_of_ble_eq_true rfl) hb65 dX10_findSigns_65 ?_
      refine ev_aload_n 0 dX10_findSigns_66 rfl ?_
      refine ev_getR (r := 247) G10 lay_245 (k := 3) rfl (Nat.le_of_ble_eq_true rfl) dX10_findSigns_67 w_1229 ?_
      refine ev_iload_n 3 dX10_findSigns_70 rfl ?_
      have hb71 := h.1
      replace h := h.2
      refine ev_iald lay_247 (Nat.le_of_ble_eq_true rfl) hb71 dX10_findSigns_71 ?_
      refine ev_icmp_eq 174 dX10_findSigns_72 (by decide) (fun c9 => ?_) (fun c9 => ?_)
      · replace h := h.1 c9
        refine ev_iinc (lv' := [(3, .int (x3 + 1)), (0, .ref 245), (1, .int x1), (2, .int x2)]) (x3 + 1) 3 dX10_findSigns_174 rfl rfl (Nat.le_of_ble_eq_true rfl) rfl ?_
        refine ev_goto 35 dX10_findSigns_177 (by decide) ?_
        refine ev_sub [1, 2, 3, 0] rfl ?_
        exact h
      · replace h := h.2 c9
        refine ev_aload_n 0 dX10_findSigns_75 rfl ?_
        refine ev_getR (r := 247) G10 lay_245 (k := 3) rfl (Nat.le_of_ble_eq_true rfl) dX10_findSigns_76 w_1229 ?_
        refine ev_iload_n 2 dX10_findSigns_79 rfl ?_
        have hb80 := h.1
        replace h := h.2
        refine ev_iald lay_247 (Nat.le_of_ble_eq_true rfl) hb80 dX10_findSigns_80 ?_
        refine ev_aload_n 0 dX10_findSigns_81 rfl ?_
        refine ev_getR (r := 247) G10 lay_245 (k := 3) rfl (Nat.le_of_ble_eq_true rfl) dX10_findSigns_82 w_1229 ?_
        refine ev_iload_n 3 dX10_findSigns_85 rfl ?_
        have hb86 := h.1
        replace h := h.2
        refine ev_iald lay_247 (Nat.le_of_ble_eq_true rfl) hb86 dX10_findSigns_86 ?_
        refine ev_icmp_ge 99 dX10_findSigns_87 (by decide) (fun c9 => ?_) (fun c9 => ?_)
        · replace h := h.1 c9
          refine ev_aload_n 0 dX10_findSigns_99 rfl ?_
          refine ev_getR (r := 247) G10 lay_245 (k := 3) rfl (Nat.le_of_ble_eq_true rfl) dX10_findSigns_100 w_1229 ?_
          refine ev_iload_n 3 dX10_findSigns_103 rfl ?_
          have hb104 := h.1
          replace h := h.2
          refine ev_iald lay_247 (Nat.le_of_ble_eq_true rfl) hb104 dX10_findSigns_104 ?_
          refine ev_istore (lv' := [(4, .int (σ1.1 247 (x3).toNatClampNeg)), (0, .ref 245), (1, .int x1), (2, .int x2), (3, .int x3)]) dX10_findSigns_105 (Nat.le_of_ble_eq_true rfl) rfl ?_
          refine ev_aload_n 1 dX10_findSigns_107 rfl ?_
          refine ev_getR (r := 247) G10 lay_245 (k := 3) rfl (Nat.le_of_ble_eq_true rfl) dX10_findSigns_108 w_1229 ?_
          refine ev_iload_n 3 dX10_findSigns_111 rfl ?_
          have hb112 := h.1
          replace h := h.2
          refine ev_iald lay_247 (Nat.le_of_ble_eq_true rfl) hb112 dX10_findSigns_112 ?_
          refine ev_aload_n 1 dX10_findSigns_113 rfl ?_
          refine ev_getR (r := 247) G10 lay_245 (k := 3) rfl (Nat.le_of_ble_eq_true rfl) dX10_findSigns_114 w_1229 ?_
          refine ev_iload_n 4 dX10_findSigns_117 rfl ?_
          have hb118 := h.1
          replace h := h.2
          refine ev_iald lay_247 (Nat.le_of_ble_eq_true rfl) hb118 dX10_findSigns_118 ?_
          refine ev_iadd dX10_findSigns_119 ?_
          refine ev_iload 0 dX10_findSigns_120 rfl ?_
          refine ev_isub dX10_findSigns_122 ?_
          refine ev_istore (lv' := [(5, .int (((σ1.1 247 (x2).toNatClampNeg) + (σ1.1 247 (x3).toNatClampNeg)) - (σ1.1 247 (x3).toNatClampNeg))), (4, .int (σ1.1 247 (x3).toNatClampNeg)), (0, .ref 245), (1, .int x1), (2, .int x2), (3, .int x3)]) dX10_findSigns_123 (Nat.le_of_ble_eq_true rfl) rfl ?_
          refine ev_iconst 0 dX10_findSigns_125 (by decide) ?_
          refine ev_istore (lv' := [(6, .int 0), (5, .int (((σ1.1 247 (x2).toNatClampNeg) + (σ1.1 247 (x3).toNatClampNeg)) - (σ1.1 247 (x3).toNatClampNeg))), (4, .int (σ1.1 247 (x3).toNatClampNeg)), (0, .ref 245), (1, .int x1), (2, .int x2), (3, .int x3)]) dX10_findSigns_126 (Nat.le_of_ble_eq_true rfl) rfl ?_
          refine ev_sub [3, 4, 5, 6, 2, 1, 0] rfl ?_
          exact h
        · replace h := h.2 c9
          refine ev_aload_n 0 dX10_findSigns_90 rfl ?_
          refine ev_getR (r := 247) G10 lay_245 (k := 3) rfl (Nat.le_of_ble_eq_true rfl) dX10_findSigns_91 w_1229 ?_
          refine ev_iload_n 2 dX10_findSigns_94 rfl ?_
          have hb95 := h.1
          replace h := h.2
          refine ev_iald lay_247 (Nat.le_of_ble_eq_true rfl) hb95 dX10_findSigns_95 ?_
          refine ev_goto 105 dX10_findSigns_96 (by decide) ?_
          refine ev_istore (lv' := [(4, .int (σ1.1 247 (x2).toNatClampNeg)), (0, .ref 245), (1, .int x1), (2, .int x2), (3, .int x3)]) dX10_findSigns_105 (Nat.le_of_ble_eq_true rfl) rfl ?_
          refine ev_aload_n 1 dX10_findSigns_107 rfl ?_
          refine ev_getR (r := 247) G10 lay_245 (k := 3) rfl (Nat.le_of_ble_eq_true rfl) dX10_findSigns_108 w_1229 ?_
          refine ev_iload_n 3 dX10_findSigns_111 rfl ?_
          have hb112 := h.1
          replace h := h.2
          refine ev_iald lay_247 (Nat.le_of_ble_eq_true rfl) hb112 dX10_findSigns_112 ?_
          refine ev_aload_n 1 dX10_findSigns_113 rfl ?_
          refine ev_getR (r := 247) G10 lay_245 (k := 3) rfl (Nat.le_of_ble_eq_true rfl) dX10_findSigns_114 w_1229 ?_
          refine ev_iload_n 4 dX10_findSigns_117 rfl ?_
          have hb118 := h.1
          replace h := h.2
          refine ev_iald lay_247 (Nat.le_of_ble_eq_true rfl) hb118 dX10_findSigns_118 ?_
          refine ev_iadd dX10_findSigns_119 ?_
          refine ev_iload 0 dX10_findSigns_120 rfl ?_
          refine ev_isub dX10_findSigns_122 ?_
          refine ev_istore (lv' := [(5, .int (((σ1.1 247 (x2).toNatClampNeg) + (σ1.1 247 (x3).toNatClampNeg)) - (σ1.1 247 (x2).toNatClampNeg))), (4, .int (σ1.1 247 (x2).toNatClampNeg)), (0, .ref 245), (1, .int x1), (2, .int x2), (3, .int x3)]) dX10_findSigns_123 (Nat.le_of_ble_eq_true rfl) rfl ?_
          refine ev_iconst 0 dX10_findSigns_125 (by decide) ?_
          refine ev_istore (lv' := [(6, .int 0), (5, .int (((σ1.1 247 (x2).toNatClampNeg) + (σ1.1 247 (x3).toNatClampNeg)) - (σ1.1 247 (x2).toNatClampNeg))), (4, .int (σ1.1 247 (x2).toNatClampNeg)), (0, .ref 245), (1, .int x1), (2, .int x2), (3, .int x3)]) dX10_findSigns_126 (Nat.le_of_ble_eq_true rfl) rfl ?_
          refine ev_sub [3, 4, 5, 6, 2, 1, 0] rfl ?_
          exact h
theorem BX10_findSigns_128 {N : Nat} {σ : Sg} {Q : Option Value → Sg → Prop} {x1 : Int32} {x2 : Int32} {x3 : Int32} {x4 : Int32} {x5 : Int32} {x6 : Int32} (h : ((σ.1 245 0) ≤ x6 → KX10_findSigns_35 N σ Q x1 x2 (x3 + 1)) ∧ (¬ (σ.1 245 0) ≤ x6 → vp_in x6 24 ∧ (((σ.1 247 (x6).toNatClampNeg) = x5 → vp_in x6 24 ∧ (KX10_findSigns_128 N (u1 σ 247 (x6).toNatClampNeg x4) Q x1 x2 x3 x4 x5 (x6 + 1))) ∧ (¬ (σ.1 247 (x6).toNatClampNeg) = x5 → vp_in x6 24 ∧ (vp_in x6 24 ∧ (KX10_findSigns_128 N (u1 σ 247 (x6).toNatClampNeg (σ.1 247 (x6).toNatClampNeg)) Q x1 x2 x3 x4 x5 (x6 + 1))))))) : KX10_findSigns_128 N σ Q x1 x2 x3 x4 x5 x6 := by
  refine ev_iload 6 dX10_findSigns_128 rfl ?_
  refine ev_aload_n 0 dX10_findSigns_130 rfl ?_
  refine ev_get G10 lay_245 (k := 0) rfl (Nat.le_of_ble_eq_true rfl) dX10_findSigns_131 w_1226 ?_
  refine ev_icmp_ge 174 dX10_findSigns_134 (by decide) (fun c9 => ?_) (fun c9 => ?_)
  · replace h := h.1 c9
    refine ev_iinc (lv' := [(3, .int (x3 + 1)), (0, .ref 245), (1, .int x1), (2, .int x2), (4, .int x4), (5, .int x5), (6, .int x6)]) (x3 + 1) 3 dX10_findSigns_174 rfl rfl (Nat.le_of_ble_eq_true rfl) rfl ?_
    refine ev_goto 35 dX10_findSigns_177 (by decide) ?_
    refine ev_sub [1, 2, 3, 0] rfl ?_
    exact h
  · replace h := h.2 c9
    refine ev_aload_n 0 dX10_findSigns_137 rfl ?_
    refine ev_getR (r := 247) G10 lay_245 (k := 3) rfl (Nat.le_of_ble_eq_true rfl) dX10_findSigns_138 w_1229 ?_
    refine ev_iload 6 dX10_findSigns_141 rfl ?_
    refine ev_aload_n 0 dX10_findSigns_143 rfl ?_
    refine ev_getR (r := 247) G10 lay_245 (k := 3) rfl (Nat.le_of_ble_eq_true rfl) dX10_findSigns_144 w_1229 ?_
    refine ev_iload 6 dX10_findSigns_147 rfl ?_
    have hb149 := h.1
    replace h := h.2
    refine ev_iald lay_247 (Nat.le_of_ble_eq_true rfl) hb149 dX10_findSigns_149 ?_
    refine ev_iload 5 dX10_findSigns_150 rfl ?_
    refine ev_icmp_ne 160 dX10_findSigns_152 (by decide) (fun c9 => ?_) (fun c9 => ?_)
    · replace h := h.2 c9
      refine ev_aload_n 0 dX10_findSigns_160 rfl ?_
      refine ev_getR (r := 247) G10 lay_245 (k := 3) rfl (Nat.le_of_ble_eq_true rfl) dX10_findSigns_161 w_1229 ?_
      refine ev_iload 6 dX10_findSigns_164 rfl ?_
      have hb166 := h.1
      replace h := h.2
      refine ev_iald lay_247 (Nat.le_of_ble_eq_true rfl) hb166 dX10_findSigns_166 ?_
      have hb167 := h.1
      replace h := h.2
      refine ev_iast lay_247 (Nat.le_of_ble_eq_true rfl) hb167 dX10_findSigns_167 ?_
      refine ev_iinc (lv' := [(6, .int (x6 + 1)), (0, .ref 245), (1, .int x1), (2, .int x2), (3, .int x3), (4, .int x4), (5, .int x5)]) (x6 + 1) 6 dX10_findSigns_168 rfl rfl (Nat.le_of_ble_eq_true rfl) rfl ?_
      refine ev_goto 128 dX10_findSigns_171 (by decide) ?_
      refine ev_sub [1, 2, 3, 4, 5, 6, 0] rfl ?_
      exact h
    · replace h := h.1 c9
      refine ev_iload 4 dX10_findSigns_155 rfl ?_
      refine ev_goto 167 dX10_findSigns_157 (by decide) ?_
      have hb167 := h.1
      replace h := h.2
      refine ev_iast lay_247 (Nat.le_of_ble_eq_true rfl) hb167 dX10_findSigns_167 ?_
      refine ev_iinc (lv' := [(6, .int (x6 + 1)), (0, .ref 245), (1, .int x1), (2, .int x2), (3, .int x3), (4, .int x4), (5, .int x5)]) (x6 + 1) 6 dX10_findSigns_168 rfl rfl (Nat.le_of_ble_eq_true rfl) rfl ?_
      refine ev_goto 128 dX10_findSigns_171 (by decide) ?_
      refine ev_sub [1, 2, 3, 4, 5, 6, 0] rfl ?_
      exact h
abbrev KX10_signMany_4 (N : Nat) (σ : Sg) (Q : Option Value → Sg → Prop) (x1 : Int32) (x2 : Int32) : Prop := Ev N mX10_signMany 4 [(0, .ref 245), (1, .int x1), (2, .int x2)] [] σ Q
theorem EX10_signMany {N : Nat} {σ : Sg} {Q : Option Value → Sg → Prop} (h : KX10_signMany_4 N σ Q 0 0) : EvM N mX10_signMany [.ref 245] σ Q := by
  refine ev_entry rfl (Nat.le_of_ble_eq_true rfl) (lv := [(0, .ref 245)]) rfl ?_
  refine ev_iconst 0 dX10_signMany_0 (by decide) ?_
  refine ev_istore_n (lv' := [(1, .int 0), (0, .ref 245)]) dX10_signMany_1 (Nat.le_of_ble_eq_true rfl) rfl ?_
  refine ev_iconst 0 dX10_signMany_2 (by decide) ?_
  refine ev_istore_n (lv' := [(2, .int 0), (1, .int 0), (0, .ref 245)]) dX10_signMany_3 (Nat.le_of_ble_eq_true rfl) rfl ?_
  refine ev_sub [2, 1, 0] rfl ?_
  exact h
theorem BX10_signMany_4 {N : Nat} {σ : Sg} {Q : Option Value → Sg → Prop} {x1 : Int32} {x2 : Int32} (h : ((σ.1 245 0) ≤ x2 → Q (some (.int x1)) σ) ∧ (¬ (σ.1 245 0) ≤ x2 → vp_in x2 24 ∧ (((σ.1 247 (x2).toNatClampNeg) = x2 → KX10_signMany_4 N σ Q (x1 + 1) (x2 + 1)) ∧ (¬ (σ.1 247 (x2).toNatClampNeg) = x2 → KX10_signMany_4 N σ Q (x1 + 0) (x2 + 1))))) : KX10_signMany_4 N σ Q x1 x2 := by
  refine ev_iload_n 2 dX10_signMany_4 rfl ?_
  refine ev_aload_n 0 dX10_signMany_5 rfl ?_
  refine ev_get G10 lay_245 (k := 0) rfl (Nat.le_of_ble_eq_true rfl) dX10_signMany_6 w_1226 ?_
  refine ev_icmp_ge 36 dX10_signMany_9 (by decide) (fun c9 => ?_) (fun c9 => ?_)
  · replace h := h.1 c9
    refine ev_iload_n 1 dX10_signMany_36 rfl ?_
    exact ev_iret rfl dX10_signMany_37 h
  · replace h := h.2 c9
    refine ev_iload_n 1 dX10_signMany_12 rfl ?_
    refine ev_aload_n 0 dX10_signMany_13 rfl ?_
    refine ev_getR (r := 247) G10 lay_245 (k := 3) rfl (Nat.le_of_ble_eq_true rfl) dX10_signMany_14 w_1229 ?_
    refine ev_iload_n 2 dX10_signMany_17 rfl ?_
    have hb18 := h.1
    replace h := h.2
    refine ev_iald lay_247 (Nat.le_of_ble_eq_true rfl) hb18 dX10_signMany_18 ?_
    refine ev_iload_n 2 dX10_signMany_19 rfl ?_
    refine ev_icmp_ne 27 dX10_signMany_20 (by decide) (fun c9 => ?_) (fun c9 => ?_)
    · replace h := h.2 c9
      refine ev_iconst 0 dX10_signMany_27 (by decide) ?_
      refine ev_iadd dX10_signMany_28 ?_
      refine ev_istore_n (lv' := [(1, .int (x1 + 0)), (0, .ref 245), (2, .int x2)]) dX10_signMany_29 (Nat.le_of_ble_eq_true rfl) rfl ?_
      refine ev_iinc (lv' := [(2, .int (x2 + 1)), (1, .int (x1 + 0)), (0, .ref 245)]) (x2 + 1) 2 dX10_signMany_30 rfl rfl (Nat.le_of_ble_eq_true rfl) rfl ?_
      refine ev_goto 4 dX10_signMany_33 (by decide) ?_
      refine ev_sub [2, 1, 0] rfl ?_
      exact h
    · replace h := h.1 c9
      refine ev_iconst 1 dX10_signMany_23 (by decide) ?_
      refine ev_goto 28 dX10_signMany_24 (by decide) ?_
      refine ev_iadd dX10_signMany_28 ?_
      refine ev_istore_n (lv' := [(1, .int (x1 + 1)), (0, .ref 245), (2, .int x2)]) dX10_signMany_29 (Nat.le_of_ble_eq_true rfl) rfl ?_
      refine ev_iinc (lv' := [(2, .int (x2 + 1)), (1, .int (x1 + 1)), (0, .ref 245)]) (x2 + 1) 2 dX10_signMany_30 rfl rfl (Nat.le_of_ble_eq_true rfl) rfl ?_
      refine ev_goto 4 dX10_signMany_33 (by decide) ?_
      refine ev_sub [2, 1, 0] rfl ?_
      exact h
theorem EX10_sign {N : Nat} {σ : Sg} {Q : Option Value → Sg → Prop} {x1 : Int32} (h : EvM (N + 1) mX10_findSigns [.ref 245, .int (σ.1 245 2)] σ (fun r9 σ1 => r9 = none ∧ (EvM (N + 1) mX10_isForm [.ref 245, .int x1] σ1 (fun r9 σ2 => ∃ v2, r9 = some (.int v2) ∧ ((v2 = 0 → Q (some (.int (-1))) σ2) ∧ (¬ v2 = 0 → vp_in x1 24 ∧ (Q (some (.int (σ2.1 247 (x1).toNatClampNeg))) σ2))))))) : EvM (N + 2) mX10_sign [.ref 245, .int x1] σ Q := by
  refine ev_entry rfl (Nat.le_of_ble_eq_true rfl) (lv := [(0, .ref 245), (1, .int x1)]) rfl ?_
  refine ev_aload_n 0 dX10_sign_0 rfl ?_
  refine ev_aload_n 0 dX10_sign_1 rfl ?_
  refine ev_get G10 lay_245 (k := 2) rfl (Nat.le_of_ble_eq_true rfl) dX10_sign_2 w_1228 ?_
  refine ev_callV (M' := mX10_findSigns) [.int (σ.1 245 2)] vX10_findSigns G10 lay_245 dX10_sign_5 w_1433 rfl rfl (Nat.le_of_ble_eq_true rfl) h ?_
  rintro r9 σ1 ⟨rfl, h⟩
  refine ev_aload_n 0 dX10_sign_8 rfl ?_
  refine ev_iload_n 1 dX10_sign_9 rfl ?_
  refine ev_callV (M' := mX10_isForm) [.int x1] vX10_isForm G10 lay_245 dX10_sign_10 w_1440 rfl rfl (Nat.le_of_ble_eq_true rfl) h ?_
  rintro r9 σ2 ⟨v2, rfl, h⟩
  refine ev_if_eq 25 dX10_sign_13 (by decide) (fun c9 => ?_) (fun c9 => ?_)
  · replace h := h.1 c9
    refine ev_iconst (-1) dX10_sign_25 (by decide) ?_
    exact ev_iret rfl dX10_sign_26 h
  · replace h := h.2 c9
    refine ev_aload_n 0 dX10_sign_16 rfl ?_
    refine ev_getR (r := 247) G10 lay_245 (k := 3) rfl (Nat.le_of_ble_eq_true rfl) dX10_sign_17 w_1229 ?_
    refine ev_iload_n 1 dX10_sign_20 rfl ?_
    have hb21 := h.1
    replace h := h.2
    refine ev_iald lay_247 (Nat.le_of_ble_eq_true rfl) hb21 dX10_sign_21 ?_
    refine ev_goto 26 dX10_sign_22 (by decide) ?_
    exact ev_iret rfl dX10_sign_26 h
abbrev KX10_signs_26 (N : Nat) (σ : Sg) (Q : Option Value → Sg → Prop) (x2 : Int32) : Prop := Ev (N + 2) mX10_signs 26 [(0, .ref 245), (2, .int x2)] [] σ Q
abbrev KX10_signs_63 (N : Nat) (σ : Sg) (Q : Option Value → Sg → Prop) (x1 : Int32) (x2 : Int32) (x3 : Int32) (x4 : Int32) : Prop := Ev (N + 2) mX10_signs 63 [(0, .ref 245), (1, .int x1), (2, .int x2), (3, .int x3), (4, .int x4)] [] σ Q
abbrev KX10_signs_78 (N : Nat) (σ : Sg) (Q : Option Value → Sg → Prop) (x1 : Int32) (x2 : Int32) (x3 : Int32) (x4 : Int32) (x5 : Int32) (x6 : Int32) : Prop := Ev (N + 2) mX10_signs 78 [(0, .ref 245), (1, .int x1), (2, .int x2), (3, .int x3), (4, .int x4), (5, .int x5), (6, .int x6)] [] σ Q
theorem EX10_signs {N : Nat} {σ : Sg} {Q : Option Value → Sg → Prop} {x1 : Int32} (h : ((0 ≤ ((x1).toInt64).toInt ∧ ((x1).toInt64).toInt ≤ 3) → (x1 = 3 → EvM (N + 1) mX10_findSigns [.ref 245, .int 0] σ (fun r9 σ2 => r9 = none ∧ (KX10_signs_26 N σ2 Q 0))) ∧ (¬ x1 = 3 → EvM (N + 1) mX10_findSigns [.ref 245, .int (σ.1 245 2)] σ (fun r9 σ1 => r9 = none ∧ (KX10_signs_63 N σ1 Q x1 0 (-4) 0)))) ∧ (¬ (0 ≤ ((x1).toInt64).toInt ∧ ((x1).toInt64).toInt ≤ 3) → Q (some (.int (-1))) σ)) : EvM (N + 2) mX10_signs [.ref 245, .int x1] σ Q := by
  refine ev_entry rfl (Nat.le_of_ble_eq_true rfl) (lv := [(0, .ref 245), (1, .int x1)]) rfl ?_
  refine ev_iload_n 1 dX10_signs_0 rfl ?_
  refine ev_i2l dX10_signs_1 ?_
  refine ev_lconst 0 dX10_signs_2 (by decide) ?_
  refine ev_ldc2 3 dX10_signs_3 w_1448 ?_
  refine ev_callS (M' := mX10_in) [.long ((x1).toInt64), .long 0, .long 3] vX10_in dX10_signs_6 w_1421 rfl rfl (Nat.le_of_ble_eq_true rfl) (C10_in (P := 0 ≤ ((x1).toInt64).toInt ∧ ((x1).toInt64).toInt ≤ 3) (by (try simp only [i_l]); exact Iff.rfl) (Q := fun r9 s9 => σ = s9 ∧ ((r9 = some (.int 1) ∧ (0 ≤ ((x1).toInt64).toInt ∧ ((x1).toInt64).toInt ≤ 3)) ∨ (r9 = some (.int 0) ∧ ¬ (0 ≤ ((x1).toInt64).toInt ∧ ((x1).toInt64).toInt ≤ 3)))) ⟨fun c9 => ⟨rfl, Or.inl ⟨rfl, c9⟩⟩, fun c9 => ⟨rfl, Or.inr ⟨rfl, c9⟩⟩⟩) ?_
  rintro r9 s9 ⟨rfl, ⟨rfl, c9⟩ | ⟨rfl, c9⟩⟩
  · replace h := h.1 c9
    refine ev_if_ne 14 dX10_signs_9 (by decide) (fun c9 => ?_) (fun c9 => ?_)
    · refine ev_iload_n 1 dX10_signs_14 rfl ?_
      refine ev_iconst 3 dX10_signs_15 (by decide) ?_
      refine ev_icmp_ne 47 dX10_signs_16 (by decide) (fun c9 => ?_) (fun c9 => ?_)
      · replace h := h.2 c9
        refine ev_aload_n 0 dX10_signs_47 rfl ?_
        refine ev_aload_n 0 dX10_signs_48 rfl ?_
        refine ev_get G10 lay_245 (k := 2) rfl (Nat.le_of_ble_eq_true rfl) dX10_signs_49 w_1228 ?_
        refine ev_callV (M' := mX10_findSigns) [.int (σ.1 245 2)] vX10_findSigns G10 lay_245 dX10_signs_52 w_1433 rfl rfl (Nat.le_of_ble_eq_true rfl) h ?_
        rintro r9 σ1 ⟨rfl, h⟩
        refine ev_iconst 0 dX10_signs_55 (by decide) ?_
        refine ev_istore_n (lv' := [(2, .int 0), (0, .ref 245), (1, .int x1)]) dX10_signs_56 (Nat.le_of_ble_eq_true rfl) rfl ?_
        refine ev_bipush (-4) dX10_signs_57 (by decide) ?_
        refine ev_istore_n (lv' := [(3, .int (-4)), (2, .int 0), (0, .ref 245), (1, .int x1)]) dX10_signs_59 (Nat.le_of_ble_eq_true rfl) rfl ?_
        refine ev_iconst 0 dX10_signs_60 (by decide) ?_
        refine ev_istore (lv' := [(4, .int 0), (3, .int (-4)), (2, .int 0), (0, .ref 245), (1, .int x1)]) dX10_signs_61 (Nat.le_of_ble_eq_true rfl) rfl ?_
        refine ev_sub [3, 4, 2, 1, 0] rfl ?_
        exact h
      · replace h := h.1 c9
        refine ev_iconst 0 dX10_signs_19 (by decide) ?_
        refine ev_istore_n (lv' := [(2, .int 0), (0, .ref 245), (1, .int x1)]) dX10_signs_20 (Nat.le_of_ble_eq_true rfl) rfl ?_
        refine ev_aload_n 1 dX10_signs_21 rfl ?_
        refine ev_iconst 0 dX10_signs_22 (by decide) ?_
        refine ev_callV (M' := mX10_findSigns) [.int 0] vX10_findSigns G10 lay_245 dX10_signs_23 w_1433 rfl rfl (Nat.le_of_ble_eq_true rfl) h ?_
        rintro r9 σ2 ⟨rfl, h⟩
        refine ev_sub [1, 0] rfl ?_
        exact h
    · exact absurd c9 (by decide)
  · replace h := h.2 c9
    refine ev_if_ne 14 dX10_signs_9 (by decide) (fun c9 => ?_) (fun c9 => ?_)
    · exact absurd c9 (by decide)
    · refine ev_iconst (-1) dX10_signs_12 (by decide) ?_
      exact ev_iret rfl dX10_signs_13 h
theorem BX10_signs_26 {N : Nat} {σ : Sg} {Q : Option Value → Sg → Prop} {x2 : Int32} (h : EvM (N + 1) mX10_signMany [.ref 245] σ (fun r9 σ3 => ∃ v3, r9 = some (.int v3) ∧ ((v3 ≤ 1 → Q (some (.int x2)) σ3) ∧ (¬ v3 ≤ 1 → EvM (N + 1) mX10_findSigns [.ref 245, .int (x2 + 1)] σ3 (fun r9 σ4 => r9 = none ∧ (KX10_signs_26 N σ4 Q (x2 + 1))))))) : KX10_signs_26 N σ Q x2 := by
  refine ev_aload_n 0 dX10_signs_26 rfl ?_
  refine ev_callV (M' := mX10_signMany) [] vX10_signMany G10 lay_245 dX10_signs_27 w_1449 rfl rfl (Nat.le_of_ble_eq_true rfl) h ?_
  rintro r9 σ3 ⟨v3, rfl, h⟩
  refine ev_iconst 1 dX10_signs_30 (by decide) ?_
  refine ev_icmp_le 45 dX10_signs_31 (by decide) (fun c9 => ?_) (fun c9 => ?_)
  · replace h := h.1 c9
    refine ev_iload_n 1 dX10_signs_45 rfl ?_
    exact ev_iret rfl dX10_signs_46 h
  · replace h := h.2 c9
    refine ev_iinc (lv' := [(2, .int (x2 + 1)), (0, .ref 245)]) (x2 + 1) 1 dX10_signs_34 rfl rfl (Nat.le_of_ble_eq_true rfl) rfl ?_
    refine ev_aload_n 1 dX10_signs_37 rfl ?_
    refine ev_iload_n 0 dX10_signs_38 rfl ?_
    refine ev_callV (M' := mX10_findSigns) [.int (x2 + 1)] vX10_findSigns G10 lay_245 dX10_signs_39 w_1433 rfl rfl (Nat.le_of_ble_eq_true rfl) h ?_
    rintro r9 σ4 ⟨rfl, h⟩
    refine ev_goto 26 dX10_signs_42 (by decide) ?_
    refine ev_sub [1, 0] rfl ?_
    exact h
theorem BX10_signs_63 {N : Nat} {σ : Sg} {Q : Option Value → Sg → Prop} {x1 : Int32} {x2 : Int32} {x3 : Int32} {x4 : Int32} (h : ((σ.1 245 0) ≤ x4 → (x1 = 0 → EvM (N + 1) mX10_signMany [.ref 245] σ (fun r9 σ5 => ∃ v5, r9 = some (.int v5) ∧ (Q (some (.int v5)) σ5))) ∧ (¬ x1 = 0 → (x1 = 1 → Q (some (.int x2)) σ) ∧ (¬ x1 = 1 → Q (some (.int x3)) σ))) ∧ (¬ (σ.1 245 0) ≤ x4 → KX10_signs_78 N σ Q x1 x2 x3 x4 0 0)) : KX10_signs_63 N σ Q x1 x2 x3 x4 := by
  refine ev_iload 4 dX10_signs_63 rfl ?_
  refine ev_aload_n 0 dX10_signs_65 rfl ?_
  refine ev_get G10 lay_245 (k := 0) rfl (Nat.le_of_ble_eq_true rfl) dX10_signs_66 w_1226 ?_
  refine ev_icmp_ge 133 dX10_signs_69 (by decide) (fun c9 => ?_) (fun c9 => ?_)
  · replace h := h.1 c9
    refine ev_iload_n 1 dX10_signs_133 rfl ?_
    refine ev_if_ne 144 dX10_signs_134 (by decide) (fun c9 => ?_) (fun c9 => ?_)
    · replace h := h.2 c9
      refine ev_iload_n 1 dX10_signs_144 rfl ?_
      refine ev_iconst 1 dX10_signs_145 (by decide) ?_
      refine ev_icmp_ne 153 dX10_signs_146 (by decide) (fun c9 => ?_) (fun c9 => ?_)
      · replace h := h.2 c9
        refine ev_iload_n 3 dX10_signs_153 rfl ?_
        exact ev_iret rfl dX10_signs_154 h
      · replace h := h.1 c9
        refine ev_iload_n 2 dX10_signs_149 rfl ?_
        refine ev_goto 154 dX10_signs_150 (by decide) ?_
        exact ev_iret rfl dX10_signs_154 h
    · replace h := h.1 c9
      refine ev_aload_n 0 dX10_signs_137 rfl ?_
      refine ev_callV (M' := mX10_signMany) [] vX10_signMany G10 lay_245 dX10_signs_138 w_1449 rfl rfl (Nat.le_of_ble_eq_true rfl) h ?_
      rintro r9 σ5 ⟨v5, rfl, h⟩
      refine ev_goto 154 dX10_signs_141 (by decide) ?_
      exact ev_iret rfl dX10_signs_154 h
  · replace h := h.2 c9
    refine ev_iconst 0 dX10_signs_72 (by decide) ?_
    refine ev_istore (lv' := [(5, .int 0), (0, .ref 245), (1, .int x1), (2, .int x2), (3, .int x3), (4, .int x4)]) dX10_signs_73 (Nat.le_of_ble_eq_true rfl) rfl ?_
    refine ev_iconst 0 dX10_signs_75 (by decide) ?_
    refine ev_istore (lv' := [(6, .int 0), (5, .int 0), (0, .ref 245), (1, .int x1), (2, .int x2), (3, .int x3), (4, .int x4)]) dX10_signs_76 (Nat.le_of_ble_eq_true rfl) rfl ?_
    refine ev_sub [2, 3, 4, 5, 6, 1, 0] rfl ?_
    exact h
theorem BX10_signs_78 {N : Nat} {σ : Sg} {Q : Option Value → Sg → Prop} {x1 : Int32} {x2 : Int32} {x3 : Int32} {x4 : Int32} {x5 : Int32} {x6 : Int32} (h : ((σ.1 245 0) ≤ x6 → (x5 ≤ x2 → KX10_signs_63 N σ Q x1 x2 x3 (x4 + 1)) ∧ (¬ x5 ≤ x2 → KX10_signs_63 N σ Q x1 x5 x4 (x4 + 1))) ∧ (¬ (σ.1 245 0) ≤ x6 → vp_in x6 24 ∧ (((σ.1 247 (x6).toNatClampNeg) = x4 → KX10_signs_78 N σ Q x1 x2 x3 x4 (x5 + 1) (x6 + 1)) ∧ (¬ (σ.1 247 (x6).toNatClampNeg) = x4 → KX10_signs_78 N σ Q x1 x2 x3 x4 (x5 + 0) (x6 + 1))))) : KX10_signs_78 N σ Q x1 x2 x3 x4 x5 x6 := by
  refine ev_iload 6 dX10_signs_78 rfl ?_
  refine ev_aload_n 0 dX10_signs_80 rfl ?_
  refine ev_get G10 lay_245 (k := 0) rfl (Nat.le_of_ble_eq_true rfl) dX10_signs_81 w_1226 ?_
  refine ev_icmp_ge 115 dX10_signs_84 (by decide) (fun c9 => ?_) (fun c9 => ?_)
  · replace h := h.1 c9
    refine ev_iload 5 dX10_signs_115 rfl ?_
    refine ev_iload_n 2 dX10_signs_117 rfl ?_
    refine ev_icmp_le 127 dX10_signs_118 (by decide) (fun c9 => ?_) (fun c9 => ?_)
    · replace h := h.1 c9
      refine ev_iinc (lv' := [(4, .int (x4 + 1)), (0, .ref 245), (1, .int x1), (2, .int x2), (3, .int x3), (5, .int x5), (6, .int x6)]) (x4 + 1) 4 dX10_signs_127 rfl rfl (Nat.le_of_ble_eq_true rfl) rfl ?_
      refine ev_goto 63 dX10_signs_130 (by decide) ?_
      refine ev_sub [1, 2, 3, 4, 0] rfl ?_
      exact h
    · replace h := h.2 c9
      refine ev_iload 5 dX10_signs_121 rfl ?_
      refine ev_istore_n (lv' := [(2, .int x5), (0, .ref 245), (1, .int x1), (3, .int x3), (4, .int x4), (5, .int x5), (6, .int x6)]) dX10_signs_123 (Nat.le_of_ble_eq_true rfl) rfl ?_
      refine ev_iload 4 dX10_signs_124 rfl ?_
      refine ev_istore_n (lv' := [(3, .int x4), (2, .int x5), (0, .ref 245), (1, .int x1), (4, .int x4), (5, .int x5), (6, .int x6)]) dX10_signs_126 (Nat.le_of_ble_eq_true rfl) rfl ?_
      refine ev_iinc (lv' := [(4, .int (x4 + 1)), (3, .int x4), (2, .int x5), (0, .ref 245), (1, .int x1), (5, .int x5), (6, .int x6)]) (x4 + 1) 4 dX10_signs_127 rfl rfl (Nat.le_of_ble_eq_true rfl) rfl ?_
      refine ev_goto 63 dX10_signs_130 (by decide) ?_
      refine ev_sub [3, 4, 2, 1, 0] rfl ?_
      exact h
  · replace h := h.2 c9
    refine ev_iload 5 dX10_signs_87 rfl ?_
    refine ev_aload_n 0 dX10_signs_89 rfl ?_
    refine ev_getR (r := 247) G10 lay_245 (k := 3) rfl (Nat.le_of_ble_eq_true rfl) dX10_signs_90 w_1229 ?_
    refine ev_iload 6 dX10_signs_93 rfl ?_
    have hb95 := h.1
    replace h := h.2
    refine ev_iald lay_247 (Nat.le_of_ble_eq_true rfl) hb95 dX10_signs_95 ?_
    refine ev_iload 4 dX10_signs_96 rfl ?_
    refine ev_icmp_ne 105 dX10_signs_98 (by decide) (fun c9 => ?_) (fun c9 => ?_)
    · replace h := h.2 c9
      refine ev_iconst 0 dX10_signs_105 (by decide) ?_
      refine ev_iadd dX10_signs_106 ?_
      refine ev_istore (lv' := [(5, .int (x5 + 0)), (0, .ref 245), (1, .int x1), (2, .int x2), (3, .int x3), (4, .int x4), (6, .int x6)]) dX10_signs_107 (Nat.le_of_ble_eq_true rfl) rfl ?_
      refine ev_iinc (lv' := [(6, .int (x6 + 1)), (5, .int (x5 + 0)), (0, .ref 245), (1, .int x1), (2, .int x2), (3, .int x3), (4, .int x4)]) (x6 + 1) 6 dX10_signs_109 rfl rfl (Nat.le_of_ble_eq_true rfl) rfl ?_
      refine ev_goto 78 dX10_signs_112 (by decide) ?_
      refine ev_sub [2, 3, 4, 5, 6, 1, 0] rfl ?_
      exact h
    · replace h := h.1 c9
      refine ev_iconst 1 dX10_signs_101 (by decide) ?_
      refine ev_goto 106 dX10_signs_102 (by decide) ?_
      refine ev_iadd dX10_signs_106 ?_
      refine ev_istore (lv' := [(5, .int (x5 + 1)), (0, .ref 245), (1, .int x1), (2, .int x2), (3, .int x3), (4, .int x4), (6, .int x6)]) dX10_signs_107 (Nat.le_of_ble_eq_true rfl) rfl ?_
      refine ev_iinc (lv' := [(6, .int (x6 + 1)), (5, .int (x5 + 1)), (0, .ref 245), (1, .int x1), (2, .int x2), (3, .int x3), (4, .int x4)]) (x6 + 1) 6 dX10_signs_109 rfl rfl (Nat.le_of_ble_eq_true rfl) rfl ?_
      refine ev_goto 78 dX10_signs_112 (by decide) ?_
      refine ev_sub [2, 3, 4, 5, 6, 1, 0] rfl ?_
      exact h
theorem EX10_isSign {N : Nat} {σ : Sg} {Q : Option Value → Sg → Prop} {x1 : Int32} (h : EvM (N + 1) mX10_findSigns [.ref 245, .int (σ.1 245 2)] σ (fun r9 σ1 => r9 = none ∧ (EvM (N + 1) mX10_isForm [.ref 245, .int x1] σ1 (fun r9 σ2 => ∃ v2, r9 = some (.int v2) ∧ ((v2 = 0 → Q (some (.int 0)) σ2) ∧ (¬ v2 = 0 → vp_in x1 24 ∧ (((σ2.1 247 (x1).toNatClampNeg) = x1 → Q (some (.int 1)) σ2) ∧ (¬ (σ2.1 247 (x1).toNatClampNeg) = x1 → Q (some (.int 0)) σ2)))))))) : EvM (N + 2) mX10_isSign [.ref 245, .int x1] σ Q := by
  refine ev_entry rfl (Nat.le_of_ble_eq_true rfl) (lv := [(0, .ref 245), (1, .int x1)]) rfl ?_
  refine ev_aload_n 0 dX10_isSign_0 rfl ?_
  refine ev_aload_n 0 dX10_isSign_1 rfl ?_
  refine ev_get G10 lay_245 (k := 2) rfl (Nat.le_of_ble_eq_true rfl) dX10_isSign_2 w_1228 ?_
  refine ev_callV (M' := mX10_findSigns) [.int (σ.1 245 2)] vX10_findSigns G10 lay_245 dX10_isSign_5 w_1433 rfl rfl (Nat.le_of_ble_eq_true rfl) h ?_
  rintro r9 σ1 ⟨rfl, h⟩
  refine ev_aload_n 0 dX10_isSign_8 rfl ?_
  refine ev_iload_n 1 dX10_isSign_9 rfl ?_
  refine ev_callV (M' := mX10_isForm) [.int x1] vX10_isForm G10 lay_245 dX10_isSign_10 w_1440 rfl rfl (Nat.le_of_ble_eq_true rfl) h ?_
  rintro r9 σ2 ⟨v2, rfl, h⟩
  refine ev_if_eq 30 dX10_isSign_13 (by decide) (fun c9 => ?_) (fun c9 => ?_)
  · replace h := h.1 c9
    refine ev_iconst 0 dX10_isSign_30 (by decide) ?_
    exact ev_zret (ty := .boolean) rfl (by rfl) dX10_isSign_31 h
  · replace h := h.2 c9
    refine ev_aload_n 0 dX10_isSign_16 rfl ?_
    refine ev_getR (r := 247) G10 lay_245 (k := 3) rfl (Nat.le_of_ble_eq_true rfl) dX10_isSign_17 w_1229 ?_
    refine ev_iload_n 1 dX10_isSign_20 rfl ?_
    have hb21 := h.1
    replace h := h.2
    refine ev_iald lay_247 (Nat.le_of_ble_eq_true rfl) hb21 dX10_isSign_21 ?_
    refine ev_iload_n 1 dX10_isSign_22 rfl ?_
    refine ev_icmp_ne 30 dX10_isSign_23 (by decide) (fun c9 => ?_) (fun c9 => ?_)
    · replace h := h.2 c9
      refine ev_iconst 0 dX10_isSign_30 (by decide) ?_
      exact ev_zret (ty := .boolean) rfl (by rfl) dX10_isSign_31 h
    · replace h := h.1 c9
      refine ev_iconst 1 dX10_isSign_26 (by decide) ?_
      refine ev_goto 31 dX10_isSign_27 (by decide) ?_
      exact ev_zret (ty := .boolean) rfl (by rfl) dX10_isSign_31 h
theorem EX10_isText {N : Nat} {σ : Sg} {Q : Option Value → Sg → Prop} {x1 : Int32} (h : ((0 ≤ ((x1).toInt64).toInt ∧ ((x1).toInt64).toInt ≤ (((σ.1 245 4) - 1).toInt64).toInt) → Q (some (.int 1)) σ) ∧ (¬ (0 ≤ ((x1).toInt64).toInt ∧ ((x1).toInt64).toInt ≤ (((σ.1 245 4) - 1).toInt64).toInt) → Q (some (.int 0)) σ)) : EvM (N + 1) mX10_isText [.ref 245, .int x1] σ Q := by
  refine ev_entry rfl (Nat.le_of_ble_eq_true rfl) (lv := [(0, .ref 245), (1, .int x1)]) rfl ?_
  refine ev_iload_n 1 dX10_isText_0 rfl ?_
  refine ev_i2l dX10_isText_1 ?_
  refine ev_lconst 0 dX10_isText_2 (by decide) ?_
  refine ev_aload_n 0 dX10_isText_3 rfl ?_
  refine ev_get G10 lay_245 (k := 4) rfl (Nat.le_of_ble_eq_true rfl) dX10_isText_4 w_1230 ?_
  refine ev_iconst 1 dX10_isText_7 (by decide) ?_
  refine ev_isub dX10_isText_8 ?_
  refine ev_i2l dX10_isText_9 ?_
  refine ev_callS (M' := mX10_in) [.long ((x1).toInt64), .long 0, .long (((σ.1 245 4) - 1).toInt64)] vX10_in dX10_isText_10 w_1421 rfl rfl (Nat.le_of_ble_eq_true rfl) (C10_in (P := 0 ≤ ((x1).toInt64).toInt ∧ ((x1).toInt64).toInt ≤ (((σ.1 245 4) - 1).toInt64).toInt) (by (try simp only [i_l]); exact Iff.rfl) (Q := fun r9 s9 => σ = s9 ∧ ((r9 = some (.int 1) ∧ (0 ≤ ((x1).toInt64).toInt ∧ ((x1).toInt64).toInt ≤ (((σ.1 245 4) - 1).toInt64).toInt)) ∨ (r9 = some (.int 0) ∧ ¬ (0 ≤ ((x1).toInt64).toInt ∧ ((x1).toInt64).toInt ≤ (((σ.1 245 4) - 1).toInt64).toInt)))) ⟨fun c9 => ⟨rfl, Or.inl ⟨rfl, c9⟩⟩, fun c9 => ⟨rfl, Or.inr ⟨rfl, c9⟩⟩⟩) ?_
  rintro r9 s9 ⟨rfl, ⟨rfl, c9⟩ | ⟨rfl, c9⟩⟩
  · replace h := h.1 c9
    exact ev_zret (ty := .boolean) rfl (by rfl) dX10_isText_13 h
  · replace h := h.2 c9
    exact ev_zret (ty := .boolean) rfl (by rfl) dX10_isText_13 h
theorem EX10_at {N : Nat} {σ : Sg} {Q : Option Value → Sg → Prop} {x1 : Int32} {x2 : Int32} (h : vp_in ((24 * x1) + x2) 192 ∧ ((0 ≤ (σ.1 249 ((24 * x1) + x2).toNatClampNeg) → vp_in (σ.1 249 ((24 * x1) + x2).toNatClampNeg) 24 ∧ (Q (some (.int (σ.1 247 (σ.1 249 ((24 * x1) + x2).toNatClampNeg).toNatClampNeg))) σ)) ∧ (¬ 0 ≤ (σ.1 249 ((24 * x1) + x2).toNatClampNeg) → Q (some (.int (σ.1 249 ((24 * x1) + x2).toNatClampNeg))) σ))) : EvM N mX10_at [.ref 245, .int x1, .int x2] σ Q := by
  refine ev_entry rfl (Nat.le_of_ble_eq_true rfl) (lv := [(0, .ref 245), (1, .int x1), (2, .int x2)]) rfl ?_
  refine ev_aload_n 0 dX10_at_0 rfl ?_
  refine ev_getR (r := 249) G10 lay_245 (k := 6) rfl (Nat.le_of_ble_eq_true rfl) dX10_at_1 w_1232 ?_
  refine ev_bipush 24 dX10_at_4 (by decide) ?_
  refine ev_iload_n 1 dX10_at_6 rfl ?_
  refine ev_imul dX10_at_7 ?_
  refine ev_iload_n 2 dX10_at_8 rfl ?_
  refine ev_iadd dX10_at_9 ?_
  have hb10 := h.1
  replace h := h.2
  refine ev_iald lay_249 (Nat.le_of_ble_eq_true rfl) hb10 dX10_at_10 ?_
  refine ev_istore_n (lv' := [(3, .int (σ.1 249 ((24 * x1) + x2).toNatClampNeg)), (0, .ref 245), (1, .int x1), (2, .int x2)]) dX10_at_11 (Nat.le_of_ble_eq_true rfl) rfl ?_
  refine ev_iload_n 0 dX10_at_12 rfl ?_
  refine ev_if_ge 20 dX10_at_13 (by decide) (fun c9 => ?_) (fun c9 => ?_)
  · replace h := h.1 c9
    refine ev_aload_n 1 dX10_at_20 rfl ?_
    refine ev_getR (r := 247) G10 lay_245 (k := 3) rfl (Nat.le_of_ble_eq_true rfl) dX10_at_21 w_1229 ?_
    refine ev_iload_n 0 dX10_at_24 rfl ?_
    have hb25 := h.1
    replace h := h.2
    refine ev_iald lay_247 (Nat.le_of_ble_eq_true rfl) hb25 dX10_at_25 ?_
    exact ev_iret rfl dX10_at_26 h
  · replace h := h.2 c9
    refine ev_iload_n 0 dX10_at_16 rfl ?_
    refine ev_goto 26 dX10_at_17 (by decide) ?_
    exact ev_iret rfl dX10_at_26 h
theorem EX10_drop {N : Nat} {σ : Sg} {Q : Option Value → Sg → Prop} (h : ((σ.1 245 4) = 0 → Q (some (.int (-4))) σ) ∧ (¬ (σ.1 245 4) = 0 → Q (some (.int ((u1 σ 245 4 ((σ.1 245 4) - 1)).1 245 4))) (u1 σ 245 4 ((σ.1 245 4) - 1)))) : EvM N mX10_drop [.ref 245] σ Q := by
  refine ev_entry rfl (Nat.le_of_ble_eq_true rfl) (lv := [(0, .ref 245)]) rfl ?_
  refine ev_aload_n 0 dX10_drop_0 rfl ?_
  refine ev_get G10 lay_245 (k := 4) rfl (Nat.le_of_ble_eq_true rfl) dX10_drop_1 w_1230 ?_
  refine ev_if_ne 10 dX10_drop_4 (by decide) (fun c9 => ?_) (fun c9 => ?_)
  · replace h := h.2 c9
    refine ev_aload_n 0 dX10_drop_10 rfl ?_
    refine ev_dup dX10_drop_11 rfl ?_
    refine ev_get G10 lay_245 (k := 4) rfl (Nat.le_of_ble_eq_true rfl) dX10_drop_12 w_1230 ?_
    refine ev_iconst 1 dX10_drop_15 (by decide) ?_
    refine ev_isub dX10_drop_16 ?_
    refine ev_put G10 lay_245 (k := 4) rfl (Nat.le_of_ble_eq_true rfl) rfl (by decide +kernel) dX10_drop_17 w_1230 ?_
    refine ev_aload_n 0 dX10_drop_20 rfl ?_
    refine ev_get G10 lay_245 (k := 4) rfl (Nat.le_of_ble_eq_true rfl) dX10_drop_21 w_1230 ?_
    exact ev_iret rfl dX10_drop_24 h
  · replace h := h.1 c9
    refine ev_bipush (-4) dX10_drop_7 (by decide) ?_
    exact ev_iret rfl dX10_drop_9 h
abbrev KX10_findWords_15 (N : Nat) (σ : Sg) (Q : Option Value → Sg → Prop) (x1 : Int32) : Prop := Ev (N + 2) mX10_findWords 15 [(0, .ref 245), (1, .int x1)] [] σ Q
abbrev KX10_findWords_30 (N : Nat) (σ : Sg) (Q : Option Value → Sg → Prop) (x1 : Int32) (x2 : Int32) (x3 : Int32) (x4 : Int32) : Prop := Ev (N + 2) mX10_findWords 30 [(0, .ref 245), (1, .int x1), (2, .int x2), (3, .int x3), (4, .int x4)] [] σ Q
theorem EX10_findWords {N : Nat} {σ : Sg} {Q : Option Value → Sg → Prop} (h : EvM (N + 1) mX10_findSigns [.ref 245, .int (σ.1 245 2)] σ (fun r9 σ1 => r9 = none ∧ (KX10_findWords_15 N (u1 σ1 245 7 0) Q 0))) : EvM (N + 2) mX10_findWords [.ref 245] σ Q := by
  refine ev_entry rfl (Nat.le_of_ble_eq_true rfl) (lv := [(0, .ref 245)]) rfl ?_
  refine ev_aload_n 0 dX10_findWords_0 rfl ?_
  refine ev_aload_n 0 dX10_findWords_1 rfl ?_
  refine ev_get G10 lay_245 (k := 2) rfl (Nat.le_of_ble_eq_true rfl) dX10_findWords_2 w_1228 ?_
  refine ev_callV (M' := mX10_findSigns) [.int (σ.1 245 2)] vX10_findSigns G10 lay_245 dX10_findWords_5 w_1433 rfl rfl (Nat.le_of_ble_eq_true rfl) h ?_
  rintro r9 σ1 ⟨rfl, h⟩
  refine ev_aload_n 0 dX10_findWords_8 rfl ?_
  refine ev_iconst 0 dX10_findWords_9 (by decide) ?_
  refine ev_put G10 lay_245 (k := 7) rfl (Nat.le_of_ble_eq_true rfl) rfl (by decide +kernel) dX10_findWords_10 w_1233 ?_
  refine ev_iconst 0 dX10_findWords_13 (by decide) ?_
  refine ev_istore_n (lv' := [(1, .int 0), (0, .ref 245)]) dX10_findWords_14 (Nat.le_of_ble_eq_true rfl) rfl ?_
  refine ev_sub [1, 0] rfl ?_
  exact h
theorem BX10_findWords_15 {N : Nat} {σ : Sg} {Q : Option Value → Sg → Prop} {x1 : Int32} (h : ((σ.1 245 4) ≤ x1 → Q none σ) ∧ (¬ (σ.1 245 4) ≤ x1 → KX10_findWords_30 N σ Q x1 0 1 0)) : KX10_findWords_15 N σ Q x1 := by
  refine ev_iload_n 1 dX10_findWords_15 rfl ?_
  refine ev_aload_n 0 dX10_findWords_16 rfl ?_
  refine ev_get G10 lay_245 (k := 4) rfl (Nat.le_of_ble_eq_true rfl) dX10_findWords_17 w_1230 ?_
  refine ev_icmp_ge 167 dX10_findWords_20 (by decide) (fun c9 => ?_) (fun c9 => ?_)
  · replace h := h.1 c9
    exact ev_vret rfl dX10_findWords_167 h
  · replace h := h.2 c9
    refine ev_iconst 0 dX10_findWords_23 (by decide) ?_
    refine ev_istore_n (lv' := [(2, .int 0), (0, .ref 245), (1, .int x1)]) dX10_findWords_24 (Nat.le_of_ble_eq_true rfl) rfl ?_
    refine ev_iconst 1 dX10_findWords_25 (by decide) ?_
    refine ev_istore_n (lv' := [(3, .int 1), (2, .int 0), (0, .ref 245), (1, .int x1)]) dX10_findWords_26 (Nat.le_of_ble_eq_true rfl) rfl ?_
    refine ev_iconst 0 dX10_findWords_27 (by decide) ?_
    refine ev_istore (lv' := [(4, .int 0), (3, .int 1), (2, .int 0), (0, .ref 245), (1, .int x1)]) dX10_findWords_28 (Nat.le_of_ble_eq_true rfl) rfl ?_
    refine ev_sub [3, 4, 2, 1, 0] rfl ?_
    exact h
theorem BX10_findWords_30 {N : Nat} {σ : Sg} {Q : Option Value → Sg → Prop} {x1 : Int32} {x2 : Int32} {x3 : Int32} {x4 : Int32} (h : vp_in x1 8 ∧ (((σ.1 248 (x1).toNatClampNeg) < x4 → KX10_findWords_15 N σ Q (x1 + 1)) ∧ (¬ (σ.1 248 (x1).toNatClampNeg) < x4 → vp_in x1 8 ∧ (((σ.1 248 (x1).toNatClampNeg) ≤ x4 → (x4 ≤ x2 → KX10_findWords_30 N σ Q x1 (x4 + 1) 1 (x4 + 1)) ∧ (¬ x4 ≤ x2 → vp_in (σ.1 245 7) 104 ∧ (vp_in ((u1 σ 250 (σ.1 245 7).toNatClampNeg x1).1 245 7) 104 ∧ (vp_in ((u1 (u1 σ 250 (σ.1 245 7).toNatClampNeg x1) 251 ((u1 σ 250 (σ.1 245 7).toNatClampNeg x1).1 245 7).toNatClampNeg x2).1 245 7) 104 ∧ (vp_in ((u1 (u1 (u1 σ 250 (σ.1 245 7).toNatClampNeg x1) 251 ((u1 σ 250 (σ.1 245 7).toNatClampNeg x1).1 245 7).toNatClampNeg x2) 252 ((u1 (u1 σ 250 (σ.1 245 7).toNatClampNeg x1) 251 ((u1 σ 250 (σ.1 245 7).toNatClampNeg x1).1 245 7).toNatClampNeg x2).1 245 7).toNatClampNeg (x4 - x2)).1 245 7) 104 ∧ (KX10_findWords_30 N (u1 (u1 (u1 (u1 (u1 σ 250 (σ.1 245 7).toNatClampNeg x1) 251 ((u1 σ 250 (σ.1 245 7).toNatClampNeg x1).1 245 7).toNatClampNeg x2) 252 ((u1 (u1 σ 250 (σ.1 245 7).toNatClampNeg x1) 251 ((u1 σ 250 (σ.1 245 7).toNatClampNeg x1).1 245 7).toNatClampNeg x2).1 245 7).toNatClampNeg (x4 - x2)) 253 ((u1 (u1 (u1 σ 250 (σ.1 245 7).toNatClampNeg x1) 251 ((u1 σ 250 (σ.1 245 7).toNatClampNeg x1).1 245 7).toNatClampNeg x2) 252 ((u1 (u1 σ 250 (σ.1 245 7).toNatClampNeg x1) 251 ((u1 σ 250 (σ.1 245 7).toNatClampNeg x1).1 245 7).toNatClampNeg x2).1 245 7).toNatClampNeg (x4 - x2)).1 245 7).toNatClampNeg (vp_nar .boolean x3)) 245 7 (((u1 (u1 (u1 (u1 σ 250 (σ.1 245 7).toNatClampNeg x1) 251 ((u1 σ 250 (σ.1 245 7).toNatClampNeg x1).1 245 7).toNatClampNeg x2) 252 ((u1 (u1 σ 250 (σ.1 245 7).toNatClampNeg x1) 251 ((u1 σ 250 (σ.1 245 7).toNatClampNeg x1).1 245 7).toNatClampNeg x2).1 245 7).toNatClampNeg (x4 - x2)) 253 ((u1 (u1 (u1 σ 250 (σ.1 245 7).toNatClampNeg x1) 251 ((u1 σ 250 (σ.1 245 7).toNatClampNeg x1).1 245 7).toNatClampNeg x2) 252 ((u1 (u1 σ 250 (σ.1 245 7).toNatClampNeg x1) 251 ((u1 σ 250 (σ.1 245 7).toNatClampNeg x1).1 245 7).toNatClampNeg x2).1 245 7).toNatClampNeg (x4 - x2)).1 245 7).toNatClampNeg (vp_nar .boolean x3)).1 245 7) + 1)) Q x1 (x4 + 1) 1 (x4 + 1))))))) ∧ (¬ (σ.1 248 (x1).toNatClampNeg) ≤ x4 → EvM (N + 1) mX10_at [.ref 245, .int x1, .int x4] σ (fun r9 σ2 => ∃ v2, r9 = some (.int v2) ∧ ((v2 = (-2) → (x4 ≤ x2 → (v2 = (-1) → KX10_findWords_30 N σ2 Q x1 (x4 + 1) 0 (x4 + 1)) ∧ (¬ v2 = (-1) → KX10_findWords_30 N σ2 Q x1 (x4 + 1) 1 (x4 + 1))) ∧ (¬ x4 ≤ x2 → vp_in (σ2.1 245 7) 104 ∧ (vp_in ((u1 σ2 250 (σ2.1 245 7).toNatClampNeg x1).1 245 7) 104 ∧ (vp_in ((u1 (u1 σ2 250 (σ2.1 245 7).toNatClampNeg x1) 251 ((u1 σ2 250 (σ2.1 245 7).toNatClampNeg x1).1 245 7).toNatClampNeg x2).1 245 7) 104 ∧ (vp_in ((u1 (u1 (u1 σ2 250 (σ2.1 245 7).toNatClampNeg x1) 251 ((u1 σ2 250 (σ2.1 245 7).toNatClampNeg x1).1 245 7).toNatClampNeg x2) 252 ((u1 (u1 σ2 250 (σ2.1 245 7).toNatClampNeg x1) 251 ((u1 σ2 250 (σ2.1 245 7).toNatClampNeg x1).1 245 7).toNatClampNeg x2).1 245 7).toNatClampNeg (x4 - x2)).1 245 7) 104 ∧ ((v2 = (-1) → KX10_findWords_30 N (u1 (u1 (u1 (u1 (u1 σ2 250 (σ2.1 245 7).toNatClampNeg x1) 251 ((u1 σ2 250 (σ2.1 245 7).toNatClampNeg x1).1 245 7).toNatClampNeg x2) 252 ((u1 (u1 σ2 250 (σ2.1 245 7).toNatClampNeg x1) 251 ((u1 σ2 250 (σ2.1 245 7).toNatClampNeg x1).1 245 7).toNatClampNeg x2).1 245 7).toNatClampNeg (x4 - x2)) 253 ((u1 (u1 (u1 σ2 250 (σ2.1 245 7).toNatClampNeg x1) 251 ((u1 σ2 250 (σ2.1 245 7).toNatClampNeg x1).1 245 7).toNatClampNeg x2) 252 ((u1 (u1 σ2 250 (σ2.1 245 7).toNatClampNeg x1) 251 ((u1 σ2 250 (σ2.1 245 7).toNatClampNeg x1).1 245 7).toNatClampNeg x2).1 245 7).toNatClampNeg (x4 - x2)).1 245 7).toNatClampNeg (vp_nar .boolean x3)) 245 7 (((u1 (u1 (u1 (u1 σ2 250 (σ2.1 245 7).toNatClampNeg x1) 251 ((u1 σ2 250 (σ2.1 245 7).toNatClampNeg x1).1 245 7).toNatClampNeg x2) 252 ((u1 (u1 σ2 250 (σ2.1 245 7).toNatClampNeg x1) 251 ((u1 σ2 250 (σ2.1 245 7).toNatClampNeg x1).1 245 7).toNatClampNeg x2).1 245 7).toNatClampNeg (x4 - x2)) 253 ((u1 (u1 (u1 σ2 250 (σ2.1 245 7).toNatClampNeg x1) 251 ((u1 σ2 250 (σ2.1 245 7).toNatClampNeg x1).1 245 7).toNatClampNeg x2) 252 ((u1 (u1 σ2 250 (σ2.1 245 7).toNatClampNeg x1) 251 ((u1 σ2 250 (σ2.1 245 7).toNatClampNeg x1).1 245 7).toNatClampNeg x2).1 245 7).toNatClampNeg (x4 - x2)).1 245 7).toNatClampNeg (vp_nar .boolean x3)).1 245 7) + 1)) Q x1 (x4 + 1) 0 (x4 + 1)) ∧ (¬ v2 = (-1) → KX10_findWords_30 N (u1 (u1 (u1 (u1 (u1 σ2 250 (σ2.1 245 7).toNatClampNeg x1) 251 ((u1 σ2 250 (σ2.1 245 7).toNatClampNeg x1).1 245 7).toNatClampNeg x2) 252 ((u1 (u1 σ2 250 (σ2.1 245 7).toNatClampNeg x1) 251 ((u1 σ2 250 (σ2.1 245 7).toNatClampNeg x1).1 245 7).toNatClampNeg x2).1 245 7).toNatClampNeg (x4 - x2)) 253 ((u1 (u1 (u1 σ2 250 (σ2.1 245 7).toNatClampNeg x1) 251 ((u1 σ2 250 (σ2.1 245 7).toNatClampNeg x1).1 245 7).toNatClampNeg x2) 252 ((u1 (u1 σ2 250 (σ2.1 245 7).toNatClampNeg x1) 251 ((u1 σ2 250 (σ2.1 245 7).toNatClampNeg x1).1 245 7).toNatClampNeg x2).1 245 7).toNatClampNeg (x4 - x2)).1 245 7).toNatClampNeg (vp_nar .boolean x3)) 245 7 (((u1 (u1 (u1 (u1 σ2 250 (σ2.1 245 7).toNatClampNeg x1) 251 ((u1 σ2 250 (σ2.1 245 7).toNatClampNeg x1).1 245 7).toNatClampNeg x2) 252 ((u1 (u1 σ2 250 (σ2.1 245 7).toNatClampNeg x1) 251 ((u1 σ2 250 (σ2.1 245 7).toNatClampNeg x1).1 245 7).toNatClampNeg x2).1 245 7).toNatClampNeg (x4 - x2)) 253 ((u1 (u1 (u1 σ2 250 (σ2.1 245 7).toNatClampNeg x1) 251 ((u1 σ2 250 (σ2.1 245 7).toNatClampNeg x1).1 245 7).toNatClampNeg x2) 252 ((u1 (u1 σ2 250 (σ2.1 245 7).toNatClampNeg x1) 251 ((u1 σ2 250 (σ2.1 245 7).toNatClampNeg x1).1 245 7).toNatClampNeg x2).1 245 7).toNatClampNeg (x4 - x2)).1 245 7).toNatClampNeg (vp_nar .boolean x3)).1 245 7) + 1)) Q x1 (x4 + 1) 1 (x4 + 1)))))))) ∧ (¬ v2 = (-2) → (x3 = 0 → KX10_findWords_30 N σ2 Q x1 x2 0 (x4 + 1)) ∧ (¬ x3 = 0 → (v2 = (-1) → KX10_findWords_30 N σ2 Q x1 x2 0 (x4 + 1)) ∧ (¬ v2 = (-1) → KX10_findWords_30 N σ2 Q x1 x2 1 (x4 + 1))))))))))) : KX10_findWords_30 N σ Q x1 x2 x3 x4 := by
  refine ev_iload 4 dX10_findWords_30 rfl ?_
  refine ev_aload_n 0 dX10_findWords_32 rfl ?_
  refine ev_getR (r := 248) G10 lay_245 (k := 5) rfl (Nat.le_of_ble_eq_true rfl) dX10_findWords_33 w_1231 ?_
  refine ev_iload_n 1 dX10_findWords_36 rfl ?_
  have hb37 := h.1
  replace h := h.2
  refine ev_iald lay_248 (Nat.le_of_ble_eq_true rfl) hb37 dX10_findWords_37 ?_
  refine ev_icmp_gt 161 dX10_findWords_38 (by decide) (fun c9 => ?_) (fun c9 => ?_)
  · replace h := h.1 c9
    refine ev_iinc (lv' := [(1, .int (x1 + 1)), (0, .ref 245), (2, .int x2), (3, .int x3), (4, .int x4)]) (x1 + 1) 1 dX10_findWords_161 rfl rfl (Nat.le_of_ble_eq_true rfl) rfl ?_
    refine ev_goto 15 dX10_findWords_164 (by decide) ?_
    refine ev_sub [1, 0] rfl ?_
    exact h
  · replace h := h.2 c9
    refine ev_iload 4 dX10_findWords_41 rfl ?_
    refine ev_aload_n 0 dX10_findWords_43 rfl ?_
    refine ev_getR (r := 248) G10 lay_245 (k := 5) rfl (Nat.le_of_ble_eq_true rfl) dX10_findWords_44 w_1231 ?_
    refine ev_iload_n 1 dX10_findWords_47 rfl ?_
    have hb48 := h.1
    replace h := h.2
    refine ev_iald lay_248 (Nat.le_of_ble_eq_true rfl) hb48 dX10_findWords_48 ?_
    refine ev_icmp_ge 62 dX10_findWords_49 (by decide) (fun c9 => ?_) (fun c9 => ?_)
    · replace h := h.1 c9
      refine ev_bipush (-2) dX10_findWords_62 (by decide) ?_
      refine ev_istore (lv' := [(5, .int (-2)), (0, .ref 245), (1, .int x1), (2, .int x2), (3, .int x3), (4, .int x4)]) dX10_findWords_64 (Nat.le_of_ble_eq_true rfl) rfl ?_
      refine ev_iload 0 dX10_findWords_66 rfl ?_
      refine ev_bipush (-2) dX10_findWords_68 (by decide) ?_
      refine ev_icmp_ne 139 dX10_findWords_70 (by decide) (fun c9 => ?_) (fun c9 => ?_)
      · exact absurd c9 (by decide)
      · refine ev_iload 5 dX10_findWords_73 rfl ?_
        refine ev_iload_n 3 dX10_findWords_75 rfl ?_
        refine ev_icmp_le 132 dX10_findWords_76 (by decide) (fun c9 => ?_) (fun c9 => ?_)
        · replace h := h.1 c9
          refine ev_iload 5 dX10_findWords_132 rfl ?_
          refine ev_iconst 1 dX10_findWords_134 (by decide) ?_
          refine ev_iadd dX10_findWords_135 ?_
          refine ev_istore_n (lv' := [(2, .int (x4 + 1)), (5, .int (-2)), (0, .ref 245), (1, .int x1), (3, .int x3), (4, .int x4)]) dX10_findWords_136 (Nat.le_of_ble_eq_true rfl) rfl ?_
          refine ev_iconst 1 dX10_findWords_137 (by decide) ?_
          refine ev_istore_n (lv' := [(3, .int 1), (2, .int (x4 + 1)), (5, .int (-2)), (0, .ref 245), (1, .int x1), (4, .int x4)]) dX10_findWords_138 (Nat.le_of_ble_eq_true rfl) rfl ?_
          refine ev_iload_n 0 dX10_findWords_139 rfl ?_
          refine ev_if_eq 153 dX10_findWords_140 (by decide) (fun c9 => ?_) (fun c9 => ?_)
          · exact absurd c9 (by decide)
          · refine ev_iload 2 dX10_findWords_143 rfl ?_
            refine ev_iconst (-1) dX10_findWords_145 (by decide) ?_
            refine ev_icmp_eq 153 dX10_findWords_146 (by decide) (fun c9 => ?_) (fun c9 => ?_)
            · exact absurd c9 (by decide)
            · refine ev_iconst 1 dX10_findWords_149 (by decide) ?_
              refine ev_goto 154 dX10_findWords_150 (by decide) ?_
              refine ev_istore_n (lv' := [(3, .int 1), (2, .int (x4 + 1)), (5, .int (-2)), (0, .ref 245), (1, .int x1), (4, .int x4)]) dX10_findWords_154 (Nat.le_of_ble_eq_true rfl) rfl ?_
              refine ev_iinc (lv' := [(4, .int (x4 + 1)), (3, .int 1), (2, .int (x4 + 1)), (5, .int (-2)), (0, .ref 245), (1, .int x1)]) (x4 + 1) 5 dX10_findWords_155 rfl rfl (Nat.le_of_ble_eq_true rfl) rfl ?_
              refine ev_goto 30 dX10_findWords_158 (by decide) ?_
              refine ev_sub [4, 5, 2, 1, 0] rfl ?_
              exact h
        · replace h := h.2 c9
          refine ev_aload_n 1 dX10_findWords_79 rfl ?_
          refine ev_getR (r := 250) G10 lay_245 (k := 8) rfl (Nat.le_of_ble_eq_true rfl) dX10_findWords_80 w_1234 ?_
          refine ev_aload_n 1 dX10_findWords_83 rfl ?_
          refine ev_get G10 lay_245 (k := 7) rfl (Nat.le_of_ble_eq_true rfl) dX10_findWords_84 w_1233 ?_
          refine ev_iload_n 2 dX10_findWords_87 rfl ?_
          have hb88 := h.1
          replace h := h.2
          refine ev_iast lay_250 (Nat.le_of_ble_eq_true rfl) hb88 dX10_findWords_88 ?_
          refine ev_aload_n 1 dX10_findWords_89 rfl ?_
          refine ev_getR (r := 251) G10 lay_245 (k := 9) rfl (Nat.le_of_ble_eq_true rfl) dX10_findWords_90 w_1235 ?_
          refine ev_aload_n 1 dX10_findWords_93 rfl ?_
          refine ev_get G10 lay_245 (k := 7) rfl (Nat.le_of_ble_eq_true rfl) dX10_findWords_94 w_1233 ?_
          refine ev_iload_n 3 dX10_findWords_97 rfl ?_
          have hb98 := h.1
          replace h := h.2
          refine ev_iast lay_251 (Nat.le_of_ble_eq_true rfl) hb98 dX10_findWords_98 ?_
          refine ev_aload_n 1 dX10_findWords_99 rfl ?_
          refine ev_getR (r := 252) G10 lay_245 (k := 10) rfl (Nat.le_of_ble_eq_true rfl) dX10_findWords_100 w_1236 ?_
          refine ev_aload_n 1 dX10_findWords_103 rfl ?_
          refine ev_get G10 lay_245 (k := 7) rfl (Nat.le_of_ble_eq_true rfl) dX10_findWords_104 w_1233 ?_
          refine ev_iload 5 dX10_findWords_107 rfl ?_
          refine ev_iload_n 3 dX10_findWords_109 rfl ?_
          refine ev_isub dX10_findWords_110 ?_
          have hb111 := h.1
          replace h := h.2
          refine ev_iast lay_252 (Nat.le_of_ble_eq_true rfl) hb111 dX10_findWords_111 ?_
          refine ev_aload_n 1 dX10_findWords_112 rfl ?_
          refine ev_getR (r := 253) G10 lay_245 (k := 11) rfl (Nat.le_of_ble_eq_true rfl) dX10_findWords_113 w_1237 ?_
          refine ev_aload_n 1 dX10_findWords_116 rfl ?_
          refine ev_get G10 lay_245 (k := 7) rfl (Nat.le_of_ble_eq_true rfl) dX10_findWords_117 w_1233 ?_
          refine ev_iload_n 4 dX10_findWords_120 rfl ?_
          have hb121 := h.1
          replace h := h.2
          refine ev_zast lay_253 (Nat.le_of_ble_eq_true rfl) hb121 dX10_findWords_121 ?_
          refine ev_aload_n 1 dX10_findWords_122 rfl ?_
          refine ev_dup dX10_findWords_123 rfl ?_
          refine ev_get G10 lay_245 (k := 7) rfl (Nat.le_of_ble_eq_true rfl) dX10_findWords_124 w_1233 ?_
          refine ev_iconst 1 dX10_findWords_127 (by decide) ?_
          refine ev_iadd dX10_findWords_128 ?_
          refine ev_put G10 lay_245 (k := 7) rfl (Nat.le_of_ble_eq_true rfl) rfl (by decide +kernel) dX10_findWords_129 w_1233 ?_
          refine ev_iload 5 dX10_findWords_132 rfl ?_
          refine ev_iconst 1 dX10_findWords_134 (by decide) ?_
          refine ev_iadd dX10_findWords_135 ?_
          refine ev_istore_n (lv' := [(2, .int (x4 + 1)), (5, .int (-2)), (0, .ref 245), (1, .int x1), (3, .int x3), (4, .int x4)]) dX10_findWords_136 (Nat.le_of_ble_eq_true rfl) rfl ?_
          refine ev_iconst 1 dX10_findWords_137 (by decide) ?_
          refine ev_istore_n (lv' := [(3, .int 1), (2, .int (x4 + 1)), (5, .int (-2)), (0, .ref 245), (1, .int x1), (4, .int x4)]) dX10_findWords_138 (Nat.le_of_ble_eq_true rfl) rfl ?_
          refine ev_iload_n 0 dX10_findWords_139 rfl ?_
          refine ev_if_eq 153 dX10_findWords_140 (by decide) (fun c9 => ?_) (fun c9 => ?_)
          · exact absurd c9 (by decide)
          · refine ev_iload 2 dX10_findWords_143 rfl ?_
            refine ev_iconst (-1) dX10_findWords_145 (by decide) ?_
            refine ev_icmp_eq 153 dX10_findWords_146 (by decide) (fun c9 => ?_) (fun c9 => ?_)
            · exact absurd c9 (by decide)
            · refine ev_iconst 1 dX10_findWords_149 (by decide) ?_
              refine ev_goto 154 dX10_findWords_150 (by decide) ?_
              refine ev_istore_n (lv' := [(3, .int 1), (2, .int (x4 + 1)), (5, .int (-2)), (0, .ref 245), (1, .int x1), (4, .int x4)]) dX10_findWords_154 (Nat.le_of_ble_eq_true rfl) rfl ?_
              refine ev_iinc (lv' := [(4, .int (x4 + 1)), (3, .int 1), (2, .int (x4 + 1)), (5, .int (-2)), (0, .ref 245), (1, .int x1)]) (x4 + 1) 5 dX10_findWords_155 rfl rfl (Nat.le_of_ble_eq_true rfl) rfl ?_
              refine ev_goto 30 dX10_findWords_158 (by decide) ?_
              refine ev_sub [4, 5, 2, 1, 0] rfl ?_
              exact h
    · replace h := h.2 c9
      refine ev_aload_n 0 dX10_findWords_52 rfl ?_
      refine ev_iload_n 1 dX10_findWords_53 rfl ?_
      refine ev_iload 4 dX10_findWords_54 rfl ?_
      refine ev_callV (M' := mX10_at) [.int x1, .int x4] vX10_at G10 lay_245 dX10_findWords_56 w_1471 rfl rfl (Nat.le_of_ble_eq_true rfl) h ?_
      rintro r9 σ2 ⟨v2, rfl, h⟩
      refine ev_goto 64 dX10_findWords_59 (by decide) ?_
      refine ev_istore (lv' := [(5, .int v2), (0, .ref 245), (1, .int x1), (2, .int x2), (3, .int x3), (4, .int x4)]) dX10_findWords_64 (Nat.le_of_ble_eq_true rfl) rfl ?_
      refine ev_iload 0 dX10_findWords_66 rfl ?_
      refine ev_bipush (-2) dX10_findWords_68 (by decide) ?_
      refine ev_icmp_ne 139 dX10_findWords_70 (by decide) (fun c9 => ?_) (fun c9 => ?_)
      · replace h := h.2 c9
        refine ev_iload_n 4 dX10_findWords_139 rfl ?_
        refine ev_if_eq 153 dX10_findWords_140 (by decide) (fun c9 => ?_) (fun c9 => ?_)
        · replace h := h.1 c9
          refine ev_iconst 0 dX10_findWords_153 (by decide) ?_
          refine ev_istore_n (lv' := [(3, .int 0), (5, .int v2), (0, .ref 245), (1, .int x1), (2, .int x2), (4, .int x4)]) dX10_findWords_154 (Nat.le_of_ble_eq_true rfl) rfl ?_
          refine ev_iinc (lv' := [(4, .int (x4 + 1)), (3, .int 0), (5, .int v2), (0, .ref 245), (1, .int x1), (2, .int x2)]) (x4 + 1) 5 dX10_findWords_155 rfl rfl (Nat.le_of_ble_eq_true rfl) rfl ?_
          refine ev_goto 30 dX10_findWords_158 (by decide) ?_
          refine ev_sub [3, 4, 5, 1, 0] rfl ?_
          exact h
        · replace h := h.2 c9
          refine ev_iload 0 dX10_findWords_143 rfl ?_
          refine ev_iconst (-1) dX10_findWords_145 (by decide) ?_
          refine ev_icmp_eq 153 dX10_findWords_146 (by decide) (fun c9 => ?_) (fun c9 => ?_)
          · replace h := h.1 c9
            refine ev_iconst 0 dX10_findWords_153 (by decide) ?_
            refine ev_istore_n (lv' := [(3, .int 0), (5, .int v2), (0, .ref 245), (1, .int x1), (2, .int x2), (4, .int x4)]) dX10_findWords_154 (Nat.le_of_ble_eq_true rfl) rfl ?_
            refine ev_iinc (lv' := [(4, .int (x4 + 1)), (3, .int 0), (5, .int v2), (0, .ref 245), (1, .int x1), (2, .int x2)]) (x4 + 1) 5 dX10_findWords_155 rfl rfl (Nat.le_of_ble_eq_true rfl) rfl ?_
            refine ev_goto 30 dX10_findWords_158 (by decide) ?_
            refine ev_sub [3, 4, 5, 1, 0] rfl ?_
            exact h
          · replace h := h.2 c9
            refine ev_iconst 1 dX10_findWords_149 (by decide) ?_
            refine ev_goto 154 dX10_findWords_150 (by decide) ?_
            refine ev_istore_n (lv' := [(3, .int 1), (5, .int v2), (0, .ref 245), (1, .int x1), (2, .int x2), (4, .int x4)]) dX10_findWords_154 (Nat.le_of_ble_eq_true rfl) rfl ?_
            refine ev_iinc (lv' := [(4, .int (x4 + 1)), (3, .int 1), (5, .int v2), (0, .ref 245), (1, .int x1), (2, .int x2)]) (x4 + 1) 5 dX10_findWords_155 rfl rfl (Nat.le_of_ble_eq_true rfl) rfl ?_
            refine ev_goto 30 dX10_findWords_158 (by decide) ?_
            refine ev_sub [3, 4, 5, 1, 0] rfl ?_
            exact h
      · replace h := h.1 c9
        refine ev_iload 5 dX10_findWords_73 rfl ?_
        refine ev_iload_n 3 dX10_findWords_75 rfl ?_
        refine ev_icmp_le 132 dX10_findWords_76 (by decide) (fun c9 => ?_) (fun c9 => ?_)
        · replace h := h.1 c9
          refine ev_iload 5 dX10_findWords_132 rfl ?_
          refine ev_iconst 1 dX10_findWords_134 (by decide) ?_
          refine ev_iadd dX10_findWords_135 ?_
          refine ev_istore_n (lv' := [(2, .int (x4 + 1)), (5, .int v2), (0, .ref 245), (1, .int x1), (3, .int x3), (4, .int x4)]) dX10_findWords_136 (Nat.le_of_ble_eq_true rfl) rfl ?_
          refine ev_iconst 1 dX10_findWords_137 (by decide) ?_
          refine ev_istore_n (lv' := [(3, .int 1), (2, .int (x4 + 1)), (5, .int v2), (0, .ref 245), (1, .int x1), (4, .int x4)]) dX10_findWords_138 (Nat.le_of_ble_eq_true rfl) rfl ?_
          refine ev_iload_n 0 dX10_findWords_139 rfl ?_
          refine ev_if_eq 153 dX10_findWords_140 (by decide) (fun c9 => ?_) (fun c9 => ?_)
          · exact absurd c9 (by decide)
          · refine ev_iload 2 dX10_findWords_143 rfl ?_
            refine ev_iconst (-1) dX10_findWords_145 (by decide) ?_
            refine ev_icmp_eq 153 dX10_findWords_146 (by decide) (fun c9 => ?_) (fun c9 => ?_)
            · replace h := h.1 c9
              refine ev_iconst 0 dX10_findWords_153 (by decide) ?_
              refine ev_istore_n (lv' := [(3, .int 0), (2, .int (x4 + 1)), (5, .int v2), (0, .ref 245), (1, .int x1), (4, .int x4)]) dX10_findWords_154 (Nat.le_of_ble_eq_true rfl) rfl ?_
              refine ev_iinc (lv' := [(4, .int (x4 + 1)), (3, .int 0), (2, .int (x4 + 1)), (5, .int v2), (0, .ref 245), (1, .int x1)]) (x4 + 1) 5 dX10_findWords_155 rfl rfl (Nat.le_of_ble_eq_true rfl) rfl ?_
              refine ev_goto 30 dX10_findWords_158 (by decide) ?_
              refine ev_sub [4, 5, 2, 1, 0] rfl ?_
              exact h
            · replace h := h.2 c9
              refine ev_iconst 1 dX10_findWords_149 (by decide) ?_
              refine ev_goto 154 dX10_findWords_150 (by decide) ?_
              refine ev_istore_n (lv' := [(3, .int 1), (2, .int (x4 + 1)), (5, .int v2), (0, .ref 245), (1, .int x1), (4, .int x4)]) dX10_findWords_154 (Nat.le_of_ble_eq_true rfl) rfl ?_
              refine ev_iinc (lv' := [(4, .int (x4 + 1)), (3, .int 1), (2, .int (x4 + 1)), (5, .int v2), (0, .ref 245), (1, .int x1)]) (x4 + 1) 5 dX10_findWords_155 rfl rfl (Nat.le_of_ble_eq_true rfl) rfl ?_
              refine ev_goto 30 dX10_findWords_158 (by decide) ?_
              refine ev_sub [4, 5, 2, 1, 0] rfl ?_
              exact h
        · replace h := h.2 c9
          refine ev_aload_n 1 dX10_findWords_79 rfl ?_
          refine ev_getR (r := 250) G10 lay_245 (k := 8) rfl (Nat.le_of_ble_eq_true rfl) dX10_findWords_80 w_1234 ?_
          refine ev_aload_n 1 dX10_findWords_83 rfl ?_
          refine ev_get G10 lay_245 (k := 7) rfl (Nat.le_of_ble_eq_true rfl) dX10_findWords_84 w_1233 ?_
          refine ev_iload_n 2 dX10_findWords_87 rfl ?_
          have hb88 := h.1
          replace h := h.2
          refine ev_iast lay_250 (Nat.le_of_ble_eq_true rfl) hb88 dX10_findWords_88 ?_
          refine ev_aload_n 1 dX10_findWords_89 rfl ?_
          refine ev_getR (r := 251) G10 lay_245 (k := 9) rfl (Nat.le_of_ble_eq_true rfl) dX10_findWords_90 w_1235 ?_
          refine ev_aload_n 1 dX10_findWords_93 rfl ?_
          refine ev_get G10 lay_245 (k := 7) rfl (Nat.le_of_ble_eq_true rfl) dX10_findWords_94 w_1233 ?_
          refine ev_iload_n 3 dX10_findWords_97 rfl ?_
          have hb98 := h.1
          replace h := h.2
          refine ev_iast lay_251 (Nat.le_of_ble_eq_true rfl) hb98 dX10_findWords_98 ?_
          refine ev_aload_n 1 dX10_findWords_99 rfl ?_
          refine ev_getR (r := 252) G10 lay_245 (k := 10) rfl (Nat.le_of_ble_eq_true rfl) dX10_findWords_100 w_1236 ?_
          refine ev_aload_n 1 dX10_findWords_103 rfl ?_
          refine ev_get G10 lay_245 (k := 7) rfl (Nat.le_of_ble_eq_true rfl) dX10_findWords_104 w_1233 ?_
          refine ev_iload 5 dX10_findWords_107 rfl ?_
          refine ev_iload_n 3 dX10_findWords_109 rfl ?_
          refine ev_isub dX10_findWords_110 ?_
          have hb111 := h.1
          replace h := h.2
          refine ev_iast lay_252 (Nat.le_of_ble_eq_true rfl) hb111 dX10_findWords_111 ?_
          refine ev_aload_n 1 dX10_findWords_112 rfl ?_
          refine ev_getR (r := 253) G10 lay_245 (k := 11) rfl (Nat.le_of_ble_eq_true rfl) dX10_findWords_113 w_1237 ?_
          refine ev_aload_n 1 dX10_findWords_116 rfl ?_
          refine ev_get G10 lay_245 (k := 7) rfl (Nat.le_of_ble_eq_true rfl) dX10_findWords_117 w_1233 ?_
          refine ev_iload_n 4 dX10_findWords_120 rfl ?_
          have hb121 := h.1
          replace h := h.2
          refine ev_zast lay_253 (Nat.le_of_ble_eq_true rfl) hb121 dX10_findWords_121 ?_
          refine ev_aload_n 1 dX10_findWords_122 rfl ?_
          refine ev_dup dX10_findWords_123 rfl ?_
          refine ev_get G10 lay_245 (k := 7) rfl (Nat.le_of_ble_eq_true rfl) dX10_findWords_124 w_1233 ?_
          refine ev_iconst 1 dX10_findWords_127 (by decide) ?_
          refine ev_iadd dX10_findWords_128 ?_
          refine ev_put G10 lay_245 (k := 7) rfl (Nat.le_of_ble_eq_true rfl) rfl (by decide +kernel) dX10_findWords_129 w_1233 ?_
          refine ev_iload 5 dX10_findWords_132 rfl ?_
          refine ev_iconst 1 dX10_findWords_134 (by decide) ?_
          refine ev_iadd dX10_findWords_135 ?_
          refine ev_istore_n (lv' := [(2, .int (x4 + 1)), (5, .int v2), (0, .ref 245), (1, .int x1), (3, .int x3), (4, .int x4)]) dX10_findWords_136 (Nat.le_of_ble_eq_true rfl) rfl ?_
          refine ev_iconst 1 dX10_findWords_137 (by decide) ?_
          refine ev_istore_n (lv' := [(3, .int 1), (2, .int (x4 + 1)), (5, .int v2), (0, .ref 245), (1, .int x1), (4, .int x4)]) dX10_findWords_138 (Nat.le_of_ble_eq_true rfl) rfl ?_
          refine ev_iload_n 0 dX10_findWords_139 rfl ?_
          refine ev_if_eq 153 dX10_findWords_140 (by decide) (fun c9 => ?_) (fun c9 => ?_)
          · exact absurd c9 (by decide)
          · refine ev_iload 2 dX10_findWords_143 rfl ?_
            refine ev_iconst (-1) dX10_findWords_145 (by decide) ?_
            refine ev_icmp_eq 153 dX10_findWords_146 (by decide) (fun c9 => ?_) (fun c9 => ?_)
            · replace h := h.1 c9
              refine ev_iconst 0 dX10_findWords_153 (by decide) ?_
              refine ev_istore_n (lv' := [(3, .int 0), (2, .int (x4 + 1)), (5, .int v2), (0, .ref 245), (1, .int x1), (4, .int x4)]) dX10_findWords_154 (Nat.le_of_ble_eq_true rfl) rfl ?_
              refine ev_iinc (lv' := [(4, .int (x4 + 1)), (3, .int 0), (2, .int (x4 + 1)), (5, .int v2), (0, .ref 245), (1, .int x1)]) (x4 + 1) 5 dX10_findWords_155 rfl rfl (Nat.le_of_ble_eq_true rfl) rfl ?_
              refine ev_goto 30 dX10_findWords_158 (by decide) ?_
              refine ev_sub [4, 5, 2, 1, 0] rfl ?_
              exact h
            · replace h := h.2 c9
              refine ev_iconst 1 dX10_findWords_149 (by decide) ?_
              refine ev_goto 154 dX10_findWords_150 (by decide) ?_
              refine ev_istore_n (lv' := [(3, .int 1), (2, .int (x4 + 1)), (5, .int v2), (0, .ref 245), (1, .int x1), (4, .int x4)]) dX10_findWords_154 (Nat.le_of_ble_eq_true rfl) rfl ?_
              refine ev_iinc (lv' := [(4, .int (x4 + 1)), (3, .int 1), (2, .int (x4 + 1)), (5, .int v2), (0, .ref 245), (1, .int x1)]) (x4 + 1) 5 dX10_findWords_155 rfl rfl (Nat.le_of_ble_eq_true rfl) rfl ?_
              refine ev_goto 30 dX10_findWords_158 (by decide) ?_
              refine ev_sub [4, 5, 2, 1, 0] rfl ?_
              exact h
theorem EX10_wordAt {N : Nat} {σ : Sg} {Q : Option Value → Sg → Prop} {x1 : Int32} {x2 : Int32} (h : vp_in x1 104 ∧ (vp_in x1 104 ∧ (EvM N mX10_at [.ref 245, .int (σ.1 250 (x1).toNatClampNeg), .int ((σ.1 251 (x1).toNatClampNeg) + x2)] σ (fun r9 σ1 => ∃ v1, r9 = some (.int v1) ∧ (Q (some (.int v1)) σ1))))) : EvM (N + 1) mX10_wordAt [.ref 245, .int x1, .int x2] σ Q := by
  refine ev_entry rfl (Nat.le_of_ble_eq_true rfl) (lv := [(0, .ref 245), (1, .int x1), (2, .int x2)]) rfl ?_
  refine ev_aload_n 0 dX10_wordAt_0 rfl ?_
  refine ev_aload_n 0 dX10_wordAt_1 rfl ?_
  refine ev_getR (r := 250) G10 lay_245 (k := 8) rfl (Nat.le_of_ble_eq_true rfl) dX10_wordAt_2 w_1234 ?_
  refine ev_iload_n 1 dX10_wordAt_5 rfl ?_
  have hb6 := h.1
  replace h := h.2
  refine ev_iald lay_250 (Nat.le_of_ble_eq_true rfl) hb6 dX10_wordAt_6 ?_
  refine ev_aload_n 0 dX10_wordAt_7 rfl ?_
  refine ev_getR (r := 251) G10 lay_245 (k := 9) rfl (Nat.le_of_ble_eq_true rfl) dX10_wordAt_8 w_1235 ?_
  refine ev_iload_n 1 dX10_wordAt_11 rfl ?_
  have hb12 := h.1
  replace h := h.2
  refine ev_iald lay_251 (Nat.le_of_ble_eq_true rfl) hb12 dX10_wordAt_12 ?_
  refine ev_iload_n 2 dX10_wordAt_13 rfl ?_
  refine ev_iadd dX10_wordAt_14 ?_
  refine ev_callV (M' := mX10_at) [.int (σ.1 250 (x1).toNatClampNeg), .int ((σ.1 251 (x1).toNatClampNeg) + x2)] vX10_at G10 lay_245 dX10_wordAt_15 w_1471 rfl rfl (Nat.le_of_ble_eq_true rfl) h ?_
  rintro r9 σ1 ⟨v1, rfl, h⟩
  exact ev_iret rfl dX10_wordAt_18 h
abbrev KX10_textOf_56 (N : Nat) (σ : Sg) (Q : Option Value → Sg → Prop) (x1 : Int32) (x2 : Int32) (x3 : Int32) (x4 : Int32) (x5 : Int32) : Prop := Ev (N + 3) mX10_textOf 56 [(0, .ref 245), (1, .int x1), (2, .int x2), (3, .int x3), (4, .int x4), (5, .int x5)] [] σ Q
abbrev KX10_textOf_124 (N : Nat) (σ : Sg) (Q : Option Value → Sg → Prop) (x1 : Int32) (x2 : Int32) (x3 : Int32) (x4 : Int32) (x5 : Int32) (x6 : Int32) (x7 : Int32) (x8 : Int32) : Prop := Ev (N + 3) mX10_textOf 124 [(0, .ref 245), (1, .int x1), (2, .int x2), (3, .int x3), (4, .int x4), (5, .int x5), (6, .int x6), (7, .int x7), (8, .int x8)] [] σ Q
theorem EX10_textOf {N : Nat} {σ : Sg} {Q : Option Value → Sg → Prop} {x1 : Int32} {x2 : Int32} (h : EvM (N + 2) mX10_isText [.ref 245, .int x1] σ (fun r9 σ1 => ∃ v1, r9 = some (.int v1) ∧ ((v1 = 0 → Q (some (.int (-10))) σ1) ∧ (¬ v1 = 0 → ((0 ≤ ((x2).toInt64).toInt ∧ ((x2).toInt64).toInt ≤ 5) → EvM (N + 2) mX10_findWords [.ref 245] σ1 (fun r9 σ2 => r9 = none ∧ (KX10_textOf_56 N σ2 Q x1 x2 0 0 0))) ∧ (¬ (0 ≤ ((x2).toInt64).toInt ∧ ((x2).toInt64).toInt ≤ 5) → vp_in x1 8 ∧ (((10 ≤ ((x2).toInt64).toInt ∧ ((x2).toInt64).toInt ≤ ((9 + (σ1.1 248 (x1).toNatClampNeg)).toInt64).toInt) → EvM (N + 2) mX10_findWords [.ref 245] σ1 (fun r9 σ3 => r9 = none ∧ (KX10_textOf_56 N σ3 Q x1 x2 0 0 0))) ∧ (¬ (10 ≤ ((x2).toInt64).toInt ∧ ((x2).toInt64).toInt ≤ ((9 + (σ1.1 248 (x1).toNatClampNeg)).toInt64).toInt) → Q (some (.int (-10))) σ1))))))) : EvM (N + 3) mX10_textOf [.ref 245, .int x1, .int x2] σ Q := by
  refine ev_entry rfl (Nat.le_of_ble_eq_true rfl) (lv := [(0, .ref 245), (1, .int x1), (2, .int x2)]) rfl ?_
  refine ev_aload_n 0 dX10_textOf_0 rfl ?_
  refine ev_iload_n 1 dX10_textOf_1 rfl ?_
  refine ev_callV (M' := mX10_isText) [.int x1] vX10_isText G10 lay_245 dX10_textOf_2 w_1461 rfl rfl (Nat.le_of_ble_eq_true rfl) h ?_
  rintro r9 σ1 ⟨v1, rfl, h⟩
  refine ev_if_eq 41 dX10_textOf_5 (by decide) (fun c9 => ?_) (fun c9 => ?_)
  · replace h := h.1 c9
    refine ev_bipush (-10) dX10_textOf_41 (by decide) ?_
    exact ev_iret rfl dX10_textOf_43 h
  · replace h := h.2 c9
    refine ev_iload_n 2 dX10_textOf_8 rfl ?_
    refine ev_i2l dX10_textOf_9 ?_
    refine ev_lconst 0 dX10_textOf_10 (by decide) ?_
    refine ev_ldc2 5 dX10_textOf_11 w_1465 ?_
    refine ev_callS (M' := mX10_in) [.long ((x2).toInt64), .long 0, .long 5] vX10_in dX10_textOf_14 w_1421 rfl rfl (Nat.le_of_ble_eq_true rfl) (C10_in (P := 0 ≤ ((x2).toInt64).toInt ∧ ((x2).toInt64).toInt ≤ 5) (by (try simp only [i_l]); exact Iff.rfl) (Q := fun r9 s9 => σ1 = s9 ∧ ((r9 = some (.int 1) ∧ (0 ≤ ((x2).toInt64).toInt ∧ ((x2).toInt64).toInt ≤ 5)) ∨ (r9 = some (.int 0) ∧ ¬ (0 ≤ ((x2).toInt64).toInt ∧ ((x2).toInt64).toInt ≤ 5)))) ⟨fun c9 => ⟨rfl, Or.inl ⟨rfl, c9⟩⟩, fun c9 => ⟨rfl, Or.inr ⟨rfl, c9⟩⟩⟩) ?_
    rintro r9 s9 ⟨rfl, ⟨rfl, c9⟩ | ⟨rfl, c9⟩⟩
    · replace h := h.1 c9
      refine ev_if_ne 44 dX10_textOf_17 (by decide) (fun c9 => ?_) (fun c9 => ?_)
      · refine ev_aload_n 0 dX10_textOf_44 rfl ?_
        refine ev_callV (M' := mX10_findWords) [] vX10_findWords G10 lay_245 dX10_textOf_45 w_1467 rfl rfl (Nat.le_of_ble_eq_true rfl) h ?_
        rintro r9 σ2 ⟨rfl, h⟩
        refine ev_iconst 0 dX10_textOf_48 (by decide) ?_
        refine ev_istore_n (lv' := [(3, .int 0), (0, .ref 245), (1, .int x1), (2, .int x2)]) dX10_textOf_49 (Nat.le_of_ble_eq_true rfl) rfl ?_
        refine ev_iconst 0 dX10_textOf_50 (by decide) ?_
        refine ev_istore (lv' := [(4, .int 0), (3, .int 0), (0, .ref 245), (1, .int x1), (2, .int x2)]) dX10_textOf_51 (Nat.le_of_ble_eq_true rfl) rfl ?_
        refine ev_iconst 0 dX10_textOf_53 (by decide) ?_
        refine ev_istore (lv' := [(5, .int 0), (4, .int 0), (3, .int 0), (0, .ref 245), (1, .int x1), (2, .int x2)]) dX10_textOf_54 (Nat.le_of_ble_eq_true rfl) rfl ?_
        refine ev_sub [3, 4, 5, 2, 1, 0] rfl ?_
        exact h
      · exact absurd c9 (by decide)
    · replace h := h.2 c9
      refine ev_if_ne 44 dX10_textOf_17 (by decide) (fun c9 => ?_) (fun c9 => ?_)
      · exact absurd c9 (by decide)
      · refine ev_iload_n 2 dX10_textOf_20 rfl ?_
        refine ev_i2l dX10_textOf_21 ?_
        refine ev_ldc2 10 dX10_textOf_22 w_1466 ?_
        refine ev_bipush 9 dX10_textOf_25 (by decide) ?_
        refine ev_aload_n 0 dX10_textOf_27 rfl ?_
        refine ev_getR (r := 248) G10 lay_245 (k := 5) rfl (Nat.le_of_ble_eq_true rfl) dX10_textOf_28 w_1231 ?_
        refine ev_iload_n 1 dX10_textOf_31 rfl ?_
        have hb32 := h.1
        replace h := h.2
        refine ev_iald lay_248 (Nat.le_of_ble_eq_true rfl) hb32 dX10_textOf_32 ?_
        refine ev_iadd dX10_textOf_33 ?_
        refine ev_i2l dX10_textOf_34 ?_
        refine ev_callS (M' := mX10_in) [.long ((x2).toInt64), .long 10, .long ((9 + (σ1.1 248 (x1).toNatClampNeg)).toInt64)] vX10_in dX10_textOf_35 w_1421 rfl rfl (Nat.le_of_ble_eq_true rfl) (C10_in (P := 10 ≤ ((x2).toInt64).toInt ∧ ((x2).toInt64).toInt ≤ ((9 + (σ1.1 248 (x1).toNatClampNeg)).toInt64).toInt) (by (try simp only [i_l]); exact Iff.rfl) (Q := fun r9 s9 => σ1 = s9 ∧ ((r9 = some (.int 1) ∧ (10 ≤ ((x2).toInt64).toInt ∧ ((x2).toInt64).toInt ≤ ((9 + (σ1.1 248 (x1).toNatClampNeg)).toInt64).toInt)) ∨ (r9 = some (.int 0) ∧ ¬ (10 ≤ ((x2).toInt64).toInt ∧ ((x2).toInt64).toInt ≤ ((9 + (σ1.1 248 (x1).toNatClampNeg)).toInt64).toInt)))) ⟨fun c9 => ⟨rfl, Or.inl ⟨rfl, c9⟩⟩, fun c9 => ⟨rfl, Or.inr ⟨rfl, c9⟩⟩⟩) ?_
        rintro r9 s9 ⟨rfl, ⟨rfl, c9⟩ | ⟨rfl, c9⟩⟩
        · replace h := h.1 c9
          refine ev_if_ne 44 dX10_textOf_38 (by decide) (fun c9 => ?_) (fun c9 => ?_)
          · refine ev_aload_n 0 dX10_textOf_44 rfl ?_
            refine ev_callV (M' := mX10_findWords) [] vX10_findWords G10 lay_245 dX10_textOf_45 w_1467 rfl rfl (Nat.le_of_ble_eq_true rfl) h ?_
            rintro r9 σ3 ⟨rfl, h⟩
            refine ev_iconst 0 dX10_textOf_48 (by decide) ?_
            refine ev_istore_n (lv' := [(3, .int 0), (0, .ref 245), (1, .int x1), (2, .int x2)]) dX10_textOf_49 (Nat.le_of_ble_eq_true rfl) rfl ?_
            refine ev_iconst 0 dX10_textOf_50 (by decide) ?_
            refine ev_istore (lv' := [(4, .int 0), (3, .int 0), (0, .ref 245), (1, .int x1), (2, .int x2)]) dX10_textOf_51 (Nat.le_of_ble_eq_true rfl) rfl ?_
            refine ev_iconst 0 dX10_textOf_53 (by decide) ?_
            refine ev_istore (lv' := [(5, .int 0), (4, .int 0), (3, .int 0), (0, .ref 245), (1, .int x1), (2, .int x2)]) dX10_textOf_54 (Nat.le_of_ble_eq_true rfl) rfl ?_
            refine ev_sub [3, 4, 5, 2, 1, 0] rfl ?_
            exact h
          · exact absurd c9 (by decide)
        · replace h := h.2 c9
          refine ev_if_ne 44 dX10_textOf_38 (by decide) (fun c9 => ?_) (fun c9 => ?_)
          · exact absurd c9 (by decide)
          · refine ev_bipush (-10) dX10_textOf_41 (by decide) ?_
            exact ev_iret rfl dX10_textOf_43 h
theorem BX10_textOf_56 {N : Nat} {σ : Sg} {Q : Option Value → Sg → Prop} {x1 : Int32} {x2 : Int32} {x3 : Int32} {x4 : Int32} {x5 : Int32} (h : vp_in x1 8 ∧ (((σ.1 248 (x1).toNatClampNeg) ≤ x5 → KX10_textOf_124 N σ Q x1 x2 x3 x4 0 0 0 0) ∧ (¬ (σ.1 248 (x1).toNatClampNeg) ≤ x5 → EvM (N + 2) mX10_at [.ref 245, .int x1, .int x5] σ (fun r9 σ4 => ∃ v4, r9 = some (.int v4) ∧ ((v4 < 0 → EvM (N + 2) mX10_at [.ref 245, .int x1, .int x5] σ4 (fun r9 σ5 => ∃ v5, r9 = some (.int v5) ∧ ((v5 = (-1) → KX10_textOf_56 N σ5 Q x1 x2 (x3 + 0) (x4 + 1) (x5 + 1)) ∧ (¬ v5 = (-1) → KX10_textOf_56 N σ5 Q x1 x2 (x3 + 0) (x4 + 0) (x5 + 1))))) ∧ (¬ v4 < 0 → EvM (N + 2) mX10_at [.ref 245, .int x1, .int x5] σ4 (fun r9 σ6 => ∃ v6, r9 = some (.int v6) ∧ ((v6 = (-1) → KX10_textOf_56 N σ6 Q x1 x2 (x3 + 1) (x4 + 1) (x5 + 1)) ∧ (¬ v6 = (-1) → KX10_textOf_56 N σ6 Q x1 x2 (x3 + 1) (x4 + 0) (x5 + 1)))))))))) : KX10_textOf_56 N σ Q x1 x2 x3 x4 x5 := by
  refine ev_iload 5 dX10_textOf_56 rfl ?_
  refine ev_aload_n 0 dX10_textOf_58 rfl ?_
  refine ev_getR (r := 248) G10 lay_245 (k := 5) rfl (Nat.le_of_ble_eq_true rfl) dX10_textOf_59 w_1231 ?_
  refine ev_iload_n 1 dX10_textOf_62 rfl ?_
  have hb63 := h.1
  replace h := h.2
  refine ev_iald lay_248 (Nat.le_of_ble_eq_true rfl) hb63 dX10_textOf_63 ?_
  refine ev_icmp_ge 112 dX10_textOf_64 (by decide) (fun c9 => ?_) (fun c9 => ?_)
  · replace h := h.1 c9
    refine ev_iconst 0 dX10_textOf_112 (by decide) ?_
    refine ev_istore (lv' := [(5, .int 0), (0, .ref 245), (1, .int x1), (2, .int x2), (3, .int x3), (4, .int x4)]) dX10_textOf_113 (Nat.le_of_ble_eq_true rfl) rfl ?_
    refine ev_iconst 0 dX10_textOf_115 (by decide) ?_
    refine ev_istore (lv' := [(6, .int 0), (5, .int 0), (0, .ref 245), (1, .int x1), (2, .int x2), (3, .int x3), (4, .int x4)]) dX10_textOf_116 (Nat.le_of_ble_eq_true rfl) rfl ?_
    refine ev_iconst 0 dX10_textOf_118 (by decide) ?_
    refine ev_istore (lv' := [(7, .int 0), (6, .int 0), (5, .int 0), (0, .ref 245), (1, .int x1), (2, .int x2), (3, .int x3), (4, .int x4)]) dX10_textOf_119 (Nat.le_of_ble_eq_true rfl) rfl ?_
    refine ev_iconst 0 dX10_textOf_121 (by decide) ?_
    refine ev_istore (lv' := [(8, .int 0), (7, .int 0), (6, .int 0), (5, .int 0), (0, .ref 245), (1, .int x1), (2, .int x2), (3, .int x3), (4, .int x4)]) dX10_textOf_122 (Nat.le_of_ble_eq_true rfl) rfl ?_
    refine ev_sub [4, 5, 6, 7, 8, 3, 2, 1, 0] rfl ?_
    exact h
  · replace h := h.2 c9
    refine ev_iload_n 3 dX10_textOf_67 rfl ?_
    refine ev_aload_n 0 dX10_textOf_68 rfl ?_
    refine ev_iload_n 1 dX10_textOf_69 rfl ?_
    refine ev_iload 5 dX10_textOf_70 rfl ?_
    refine ev_callV (M' := mX10_at) [.int x1, .int x5] vX10_at G10 lay_245 dX10_textOf_72 w_1471 rfl rfl (Nat.le_of_ble_eq_true rfl) h ?_
    rintro r9 σ4 ⟨v4, rfl, h⟩
    refine ev_if_lt 82 dX10_textOf_75 (by decide) (fun c9 => ?_) (fun c9 => ?_)
    · replace h := h.1 c9
      refine ev_iconst 0 dX10_textOf_82 (by decide) ?_
      refine ev_iadd dX10_textOf_83 ?_
      refine ev_istore_n (lv' := [(3, .int (x3 + 0)), (0, .ref 245), (1, .int x1), (2, .int x2), (4, .int x4), (5, .int x5)]) dX10_textOf_84 (Nat.le_of_ble_eq_true rfl) rfl ?_
      refine ev_iload 4 dX10_textOf_85 rfl ?_
      refine ev_aload_n 1 dX10_textOf_87 rfl ?_
      refine ev_iload_n 2 dX10_textOf_88 rfl ?_
      refine ev_iload 5 dX10_textOf_89 rfl ?_
      refine ev_callV (M' := mX10_at) [.int x1, .int x5] vX10_at G10 lay_245 dX10_textOf_91 w_1471 rfl rfl (Nat.le_of_ble_eq_true rfl) h ?_
      rintro r9 σ5 ⟨v5, rfl, h⟩
      refine ev_iconst (-1) dX10_textOf_94 (by decide) ?_
      refine ev_icmp_ne 102 dX10_textOf_95 (by decide) (fun c9 => ?_) (fun c9 => ?_)
      · replace h := h.2 c9
        refine ev_iconst 0 dX10_textOf_102 (by decide) ?_
        refine ev_iadd dX10_textOf_103 ?_
        refine ev_istore (lv' := [(4, .int (x4 + 0)), (3, .int (x3 + 0)), (0, .ref 245), (1, .int x1), (2, .int x2), (5, .int x5)]) dX10_textOf_104 (Nat.le_of_ble_eq_true rfl) rfl ?_
        refine ev_iinc (lv' := [(5, .int (x5 + 1)), (4, .int (x4 + 0)), (3, .int (x3 + 0)), (0, .ref 245), (1, .int x1), (2, .int x2)]) (x5 + 1) 5 dX10_textOf_106 rfl rfl (Nat.le_of_ble_eq_true rfl) rfl ?_
        refine ev_goto 56 dX10_textOf_109 (by decide) ?_
        refine ev_sub [3, 4, 5, 2, 1, 0] rfl ?_
        exact h
      · replace h := h.1 c9
        refine ev_iconst 1 dX10_textOf_98 (by decide) ?_
        refine ev_goto 103 dX10_textOf_99 (by decide) ?_
        refine ev_iadd dX10_textOf_103 ?_
        refine ev_istore (lv' := [(4, .int (x4 + 1)), (3, .int (x3 + 0)), (0, .ref 245), (1, .int x1), (2, .int x2), (5, .int x5)]) dX10_textOf_104 (Nat.le_of_ble_eq_true rfl) rfl ?_
        refine ev_iinc (lv' := [(5, .int (x5 + 1)), (4, .int (x4 + 1)), (3, .int (x3 + 0)), (0, .ref 245), (1, .int x1), (2, .int x2)]) (x5 + 1) 5 dX10_textOf_106 rfl rfl (Nat.le_of_ble_eq_true rfl) rfl ?_
        refine ev_goto 56 dX10_textOf_109 (by decide) ?_
        refine ev_sub [3, 4, 5, 2, 1, 0] rfl ?_
        exact h
    · replace h := h.2 c9
      refine ev_iconst 1 dX10_textOf_78 (by decide) ?_
      refine ev_goto 83 dX10_textOf_79 (by decide) ?_
      refine ev_iadd dX10_textOf_83 ?_
      refine ev_istore_n (lv' := [(3, .int (x3 + 1)), (0, .ref 245), (1, .int x1), (2, .int x2), (4, .int x4), (5, .int x5)]) dX10_textOf_84 (Nat.le_of_ble_eq_true rfl) rfl ?_
      refine ev_iload 4 dX10_textOf_85 rfl ?_
      refine ev_aload_n 1 dX10_textOf_87 rfl ?_
      refine ev_iload_n 2 dX10_textOf_88 rfl ?_
      refine ev_iload 5 dX10_textOf_89 rfl ?_
      refine ev_callV (M' := mX10_at) [.int x1, .int x5] vX10_at G10 lay_245 dX10_textOf_91 w_1471 rfl rfl (Nat.le_of_ble_eq_true rfl) h ?_
      rintro r9 σ6 ⟨v6, rfl, h⟩
      refine ev_iconst (-1) dX10_textOf_94 (by decide) ?_
      refine ev_icmp_ne 102 dX10_textOf_95 (by decide) (fun c9 => ?_) (fun c9 => ?_)
      · replace h := h.2 c9
        refine ev_iconst 0 dX10_textOf_102 (by decide) ?_
        refine ev_iadd dX10_textOf_103 ?_
        refine ev_istore (lv' := [(4, .int (x4 + 0)), (3, .int (x3 + 1)), (0, .ref 245), (1, .int x1), (2, .int x2), (5, .int x5)]) dX10_textOf_104 (Nat.le_of_ble_eq_true rfl) rfl ?_
        refine ev_iinc (lv' := [(5, .int (x5 + 1)), (4, .int (x4 + 0)), (3, .int (x3 + 1)), (0, .ref 245), (1, .int x1), (2, .int x2)]) (x5 + 1) 5 dX10_textOf_106 rfl rfl (Nat.le_of_ble_eq_true rfl) rfl ?_
        refine ev_goto 56 dX10_textOf_109 (by decide) ?_
        refine ev_sub [3, 4, 5, 2, 1, 0] rfl ?_
        exact h
      · replace h := h.1 c9
        refine ev_iconst 1 dX10_textOf_98 (by decide) ?_
        refine ev_goto 103 dX10_textOf_99 (by decide) ?_
        refine ev_iadd dX10_textOf_103 ?_
        refine ev_istore (lv' := [(4, .int (x4 + 1)), (3, .int (x3 + 1)), (0, .ref 245), (1, .int x1), (2, .int x2), (5, .int x5)]) dX10_textOf_104 (Nat.le_of_ble_eq_true rfl) rfl ?_
        refine ev_iinc (lv' := [(5, .int (x5 + 1)), (4, .int (x4 + 1)), (3, .int (x3 + 1)), (0, .ref 245), (1, .int x1), (2, .int x2)]) (x5 + 1) 5 dX10_textOf_106 rfl rfl (Nat.le_of_ble_eq_true rfl) rfl ?_
        refine ev_goto 56 dX10_textOf_109 (by decide) ?_
        refine ev_sub [3, 4, 5, 2, 1, 0] rfl ?_
        exact h
theorem BX10_textOf_124 {N : Nat} {σ : Sg} {Q : Option Value → Sg → Prop} {x1 : Int32} {x2 : Int32} {x3 : Int32} {x4 : Int32} {x5 : Int32} {x6 : Int32} {x7 : Int32} {x8 : Int32} (h : ((σ.1 245 7) ≤ x8 → (x2 = 0 → vp_in x1 8 ∧ (Q (some (.int (σ.1 248 (x1).toNatClampNeg))) σ)) ∧ (x2 = 1 → Q (some (.int x3)) σ) ∧ (x2 = 2 → Q (some (.int x4)) σ) ∧ (x2 = 3 → Q (some (.int x5)) σ) ∧ (x2 = 4 → Q (some (.int x6)) σ) ∧ (x2 = 5 → Q (some (.int x7)) σ) ∧ (¬ x2 = 0 → ¬ x2 = 1 → ¬ x2 = 2 → ¬ x2 = 3 → ¬ x2 = 4 → ¬ x2 = 5 → EvM (N + 2) mX10_at [.ref 245, .int x1, .int (x2 - 10)] σ (fun r9 σ7 => ∃ v7, r9 = some (.int v7) ∧ (Q (some (.int v7)) σ7)))) ∧ (¬ (σ.1 245 7) ≤ x8 → vp_in x8 104 ∧ (((σ.1 250 (x8).toNatClampNeg) = x1 → vp_in x8 104 ∧ (((σ.1 253 (x8).toNatClampNeg) = 0 → vp_in x8 104 ∧ (((σ.1 253 (x8).toNatClampNeg) = 0 → KX10_textOf_124 N σ Q x1 x2 x3 x4 (x5 + 1) (x6 + 0) x7 (x8 + 1)) ∧ (¬ (σ.1 253 (x8).toNatClampNeg) = 0 → vp_in x8 104 ∧ (((σ.1 252 (x8).toNatClampNeg) ≤ x7 → KX10_textOf_124 N σ Q x1 x2 x3 x4 (x5 + 1) (x6 + 0) x7 (x8 + 1)) ∧ (¬ (σ.1 252 (x8).toNatClampNeg) ≤ x7 → vp_in x8 104 ∧ (KX10_textOf_124 N σ Q x1 x2 x3 x4 (x5 + 1) (x6 + 0) (σ.1 252 (x8).toNatClampNeg) (x8 + 1))))))) ∧ (¬ (σ.1 253 (x8).toNatClampNeg) = 0 → vp_in x8 104 ∧ (((σ.1 253 (x8).toNatClampNeg) = 0 → KX10_textOf_124 N σ Q x1 x2 x3 x4 (x5 + 1) (x6 + 1) x7 (x8 + 1)) ∧ (¬ (σ.1 253 (x8).toNatClampNeg) = 0 → vp_in x8 104 ∧ (((σ.1 252 (x8).toNatClampNeg) ≤ x7 → KX10_textOf_124 N σ Q x1 x2 x3 x4 (x5 + 1) (x6 + 1) x7 (x8 + 1)) ∧ (¬ (σ.1 252 (x8).toNatClampNeg) ≤ x7 → vp_in x8 104 ∧ (KX10_textOf_124 N σ Q x1 x2 x3 x4 (x5 + 1) (x6 + 1) (σ.1 252 (x8).toNatClampNeg) (x8 + 1))))))))) ∧ (¬ (σ.1 250 (x8).toNatClampNeg) = x1 → KX10_textOf_124 N σ Q x1 x2 x3 x4 x5 x6 x7 (x8 + 1))))) : KX10_textOf_124 N σ Q x1 x2 x3 x4 x5 x6 x7 x8 := by
  refine ev_iload 8 dX10_textOf_124 rfl ?_
  refine ev_aload_n 0 dX10_textOf_126 rfl ?_
  refine ev_get G10 lay_245 (k := 7) rfl (Nat.le_of_ble_eq_true rfl) dX10_textOf_127 w_1233 ?_
  refine ev_icmp_ge 209 dX10_textOf_130 (by decide) (fun c9 => ?_) (fun c9 => ?_)
  · replace h := h.1 c9
    refine ev_iload_n 2 dX10_textOf_209 rfl ?_
    by_cases c0 : x2 = 0
    · replace h := h.1 c0
      refine ev_tableIn (off := (38)) 0 248 dX10_textOf_210 c0 (by decide) (by decide) rfl (by decide) ?_
      refine ev_aload_n 0 dX10_textOf_248 rfl ?_
      refine ev_getR (r := 248) G10 lay_245 (k := 5) rfl (Nat.le_of_ble_eq_true rfl) dX10_textOf_249 w_1231 ?_
      refine ev_iload_n 1 dX10_textOf_252 rfl ?_
      have hb253 := h.1
      replace h := h.2
      refine ev_iald lay_248 (Nat.le_of_ble_eq_true rfl) hb253 dX10_textOf_253 ?_
      exact ev_iret rfl dX10_textOf_254 h
    by_cases c1 : x2 = 1
    · replace h := h.2.1 c1
      refine ev_tableIn (off := (45)) 1 255 dX10_textOf_210 c1 (by decide) (by decide) rfl (by decide) ?_
      refine ev_iload_n 3 dX10_textOf_255 rfl ?_
      exact ev_iret rfl dX10_textOf_256 h
    by_cases c2 : x2 = 2
    · replace h := h.2.2.1 c2
      refine ev_tableIn (off := (47)) 2 257 dX10_textOf_210 c2 (by decide) (by decide) rfl (by decide) ?_
      refine ev_iload 4 dX10_textOf_257 rfl ?_
      exact ev_iret rfl dX10_textOf_259 h
    by_cases c3 : x2 = 3
    · replace h := h.2.2.2.1 c3
      refine ev_tableIn (off := (50)) 3 260 dX10_textOf_210 c3 (by decide) (by decide) rfl (by decide) ?_
      refine ev_iload 5 dX10_textOf_260 rfl ?_
      exact ev_iret rfl dX10_textOf_262 h
    by_cases c4 : x2 = 4
    · replace h := h.2.2.2.2.1 c4
      refine ev_tableIn (off := (53)) 4 263 dX10_textOf_210 c4 (by decide) (by decide) rfl (by decide) ?_
      refine ev_iload 6 dX10_textOf_263 rfl ?_
      exact ev_iret rfl dX10_textOf_265 h
    by_cases c5 : x2 = 5
    · replace h := h.2.2.2.2.2.1 c5
      refine ev_tableIn (off := (56)) 5 266 dX10_textOf_210 c5 (by decide) (by decide) rfl (by decide) ?_
      refine ev_iload 7 dX10_textOf_266 rfl ?_
      exact ev_iret rfl dX10_textOf_268 h
    replace h := h.2.2.2.2.2.2 c0 c1 c2 c3 c4 c5
    refine ev_tableOut 269 dX10_textOf_210 ?_ (by decide) ?_
    · have hn : ∀ k : Int32, ¬ x2 = k → ¬ (x2).toInt = k.toInt := fun k q e => q (Int32.toInt_inj.mp e)
      have e0 := hn _ c0
      have e1 := hn _ c1
      have e2 := hn _ c2
      have e3 := hn _ c3
      have e4 := hn _ c4
      have e5 := hn _ c5
      rw [show (0 : Int32).toInt = 0 from by decide] at e0; rw [show (1 : Int32).toInt = 1 from by decide] at e1; rw [show (2 : Int32).toInt = 2 from by decide] at e2; rw [show (3 : Int32).toInt = 3 from by decide] at e3; rw [show (4 : Int32).toInt = 4 from by decide] at e4; rw [show (5 : Int32).toInt = 5 from by decide] at e5
      omega
    · refine ev_aload_n 0 dX10_textOf_269 rfl ?_
      refine ev_iload_n 1 dX10_textOf_270 rfl ?_
      refine ev_iload_n 2 dX10_textOf_271 rfl ?_
      refine ev_bipush 10 dX10_textOf_272 (by decide) ?_
      refine ev_isub dX10_textOf_274 ?_
      refine ev_callV (M' := mX10_at) [.int x1, .int (x2 - 10)] vX10_at G10 lay_245 dX10_textOf_275 w_1471 rfl rfl (Nat.le_of_ble_eq_true rfl) h ?_
      rintro r9 σ7 ⟨v7, rfl, h⟩
      exact ev_iret rfl dX10_textOf_278 h
  · replace h := h.2 c9
    refine ev_aload_n 0 dX10_textOf_133 rfl ?_
    refine ev_getR (r := 250) G10 lay_245 (k := 8) rfl (Nat.le_of_ble_eq_true rfl) dX10_textOf_134 w_1234 ?_
    refine ev_iload 8 dX10_textOf_137 rfl ?_
    have hb139 := h.1
    replace h := h.2
    refine ev_iald lay_250 (Nat.le_of_ble_eq_true rfl) hb139 dX10_textOf_139 ?_
    refine ev_iload_n 1 dX10_textOf_140 rfl ?_
    refine ev_icmp_ne 203 dX10_textOf_141 (by decide) (fun c9 => ?_) (fun c9 => ?_)
    · replace h := h.2 c9
      refine ev_iinc (lv' := [(8, .int (x8 + 1)), (0, .ref 245), (1, .int x1), (2, .int x2), (3, .int x3), (4, .int x4), (5, .int x5), (6, .int x6), (7, .int x7)]) (x8 + 1) 8 dX10_textOf_203 rfl rfl (Nat.le_of_ble_eq_true rfl) rfl ?_
      refine ev_goto 124 dX10_textOf_206 (by decide) ?_
      refine ev_sub [1, 2, 3, 4, 5, 6, 7, 8, 0] rfl ?_
      exact h
    · replace h := h.1 c9
      refine ev_iinc (lv' := [(5, .int (x5 + 1)), (0, .ref 245), (1, .int x1), (2, .int x2), (3, .int x3), (4, .int x4), (6, .int x6), (7, .int x7), (8, .int x8)]) (x5 + 1) 5 dX10_textOf_144 rfl rfl (Nat.le_of_ble_eq_true rfl) rfl ?_
      refine ev_iload 6 dX10_textOf_147 rfl ?_
      refine ev_aload_n 1 dX10_textOf_149 rfl ?_
      refine ev_getR (r := 253) G10 lay_245 (k := 11) rfl (Nat.le_of_ble_eq_true rfl) dX10_textOf_150 w_1237 ?_
      refine ev_iload 8 dX10_textOf_153 rfl ?_
      have hb155 := h.1
      replace h := h.2
      refine ev_zald lay_253 (Nat.le_of_ble_eq_true rfl) hb155 dX10_textOf_155 ?_
      refine ev_if_eq 163 dX10_textOf_156 (by decide) (fun c9 => ?_) (fun c9 => ?_)
      · replace h := h.1 c9
        refine ev_iconst 0 dX10_textOf_163 (by decide) ?_
        refine ev_iadd dX10_textOf_164 ?_
        refine ev_istore (lv' := [(6, .int (x6 + 0)), (5, .int (x5 + 1)), (0, .ref 245), (1, .int x1), (2, .int x2), (3, .int x3), (4, .int x4), (7, .int x7), (8, .int x8)]) dX10_textOf_165 (Nat.le_of_ble_eq_true rfl) rfl ?_
        refine ev_aload_n 2 dX10_textOf_167 rfl ?_
        refine ev_getR (r := 253) G10 lay_245 (k := 11) rfl (Nat.le_of_ble_eq_true rfl) dX10_textOf_168 w_1237 ?_
        refine ev_iload 8 dX10_textOf_171 rfl ?_
        have hb173 := h.1
        replace h := h.2
        refine ev_zald lay_253 (Nat.le_of_ble_eq_true rfl) hb173 dX10_textOf_173 ?_
        refine ev_if_eq 199 dX10_textOf_174 (by decide) (fun c9 => ?_) (fun c9 => ?_)
        · replace h := h.1 c9
          refine ev_iload 7 dX10_textOf_199 rfl ?_
          refine ev_istore (lv' := [(7, .int x7), (6, .int (x6 + 0)), (5, .int (x5 + 1)), (0, .ref 245), (1, .int x1), (2, .int x2), (3, .int x3), (4, .int x4), (8, .int x8)]) dX10_textOf_201 (Nat.le_of_ble_eq_true rfl) rfl ?_
          refine ev_iinc (lv' := [(8, .int (x8 + 1)), (7, .int x7), (6, .int (x6 + 0)), (5, .int (x5 + 1)), (0, .ref 245), (1, .int x1), (2, .int x2), (3, .int x3), (4, .int x4)]) (x8 + 1) 8 dX10_textOf_203 rfl rfl (Nat.le_of_ble_eq_true rfl) rfl ?_
          refine ev_goto 124 dX10_textOf_206 (by decide) ?_
          refine ev_sub [4, 5, 6, 7, 8, 3, 2, 1, 0] rfl ?_
          exact h
        · replace h := h.2 c9
          refine ev_aload_n 2 dX10_textOf_177 rfl ?_
          refine ev_getR (r := 252) G10 lay_245 (k := 10) rfl (Nat.le_of_ble_eq_true rfl) dX10_textOf_178 w_1236 ?_
          refine ev_iload 8 dX10_textOf_181 rfl ?_
          have hb183 := h.1
          replace h := h.2
          refine ev_iald lay_252 (Nat.le_of_ble_eq_true rfl) hb183 dX10_textOf_183 ?_
          refine ev_iload 7 dX10_textOf_184 rfl ?_
          refine ev_icmp_le 199 dX10_textOf_186 (by decide) (fun c9 => ?_) (fun c9 => ?_)
          · replace h := h.1 c9
            refine ev_iload 7 dX10_textOf_199 rfl ?_
            refine ev_istore (lv' := [(7, .int x7), (6, .int (x6 + 0)), (5, .int (x5 + 1)), (0, .ref 245), (1, .int x1), (2, .int x2), (3, .int x3), (4, .int x4), (8, .int x8)]) dX10_textOf_201 (Nat.le_of_ble_eq_true rfl) rfl ?_
            refine ev_iinc (lv' := [(8, .int (x8 + 1)), (7, .int x7), (6, .int (x6 + 0)), (5, .int (x5 + 1)), (0, .ref 245), (1, .int x1), (2, .int x2), (3, .int x3), (4, .int x4)]) (x8 + 1) 8 dX10_textOf_203 rfl rfl (Nat.le_of_ble_eq_true rfl) rfl ?_
            refine ev_goto 124 dX10_textOf_206 (by decide) ?_
            refine ev_sub [4, 5, 6, 7, 8, 3, 2, 1, 0] rfl ?_
            exact h
          · replace h := h.2 c9
            refine ev_aload_n 2 dX10_textOf_189 rfl ?_
            refine ev_getR (r := 252) G10 lay_245 (k := 10) rfl (Nat.le_of_ble_eq_true rfl) dX10_textOf_190 w_1236 ?_
            refine ev_iload 8 dX10_textOf_193 rfl ?_
            have hb195 := h.1
            replace h := h.2
            refine ev_iald lay_252 (Nat.le_of_ble_eq_true rfl) hb195 dX10_textOf_195 ?_
            refine ev_goto 201 dX10_textOf_196 (by decide) ?_
            refine ev_istore (lv' := [(7, .int (σ.1 252 (x8).toNatClampNeg)), (6, .int (x6 + 0)), (5, .int (x5 + 1)), (0, .ref 245), (1, .int x1), (2, .int x2), (3, .int x3), (4, .int x4), (8, .int x8)]) dX10_textOf_201 (Nat.le_of_ble_eq_true rfl) rfl ?_
            refine ev_iinc (lv' := [(8, .int (x8 + 1)), (7, .int (σ.1 252 (x8).toNatClampNeg)), (6, .int (x6 + 0)), (5, .int (x5 + 1)), (0, .ref 245), (1, .int x1), (2, .int x2), (3, .int x3), (4, .int x4)]) (x8 + 1) 8 dX10_textOf_203 rfl rfl (Nat.le_of_ble_eq_true rfl) rfl ?_
            refine ev_goto 124 dX10_textOf_206 (by decide) ?_
            refine ev_sub [4, 5, 6, 7, 8, 3, 2, 1, 0] rfl ?_
            exact h
      · replace h := h.2 c9
        refine ev_iconst 1 dX10_textOf_159 (by decide) ?_
        refine ev_goto 164 dX10_textOf_160 (by decide) ?_
        refine ev_iadd dX10_textOf_164 ?_
        refine ev_istore (lv' := [(6, .int (x6 + 1)), (5, .int (x5 + 1)), (0, .ref 245), (1, .int x1), (2, .int x2), (3, .int x3), (4, .int x4), (7, .int x7), (8, .int x8)]) dX10_textOf_165 (Nat.le_of_ble_eq_true rfl) rfl ?_
        refine ev_aload_n 2 dX10_textOf_167 rfl ?_
        refine ev_getR (r := 253) G10 lay_245 (k := 11) rfl (Nat.le_of_ble_eq_true rfl) dX10_textOf_168 w_1237 ?_
        refine ev_iload 8 dX10_textOf_171 rfl ?_
        have hb173 := h.1
        replace h := h.2
        refine ev_zald lay_253 (Nat.le_of_ble_eq_true rfl) hb173 dX10_textOf_173 ?_
        refine ev_if_eq 199 dX10_textOf_174 (by decide) (fun c9 => ?_) (fun c9 => ?_)
        · replace h := h.1 c9
          refine ev_iload 7 dX10_textOf_199 rfl ?_
          refine ev_istore (lv' := [(7, .int x7), (6, .int (x6 + 1)), (5, .int (x5 + 1)), (0, .ref 245), (1, .int x1), (2, .int x2), (3, .int x3), (4, .int x4), (8, .int x8)]) dX10_textOf_201 (Nat.le_of_ble_eq_true rfl) rfl ?_
          refine ev_iinc (lv' := [(8, .int (x8 + 1)), (7, .int x7), (6, .int (x6 + 1)), (5, .int (x5 + 1)), (0, .ref 245), (1, .int x1), (2, .int x2), (3, .int x3), (4, .int x4)]) (x8 + 1) 8 dX10_textOf_203 rfl rfl (Nat.le_of_ble_eq_true rfl) rfl ?_
          refine ev_goto 124 dX10_textOf_206 (by decide) ?_
          refine ev_sub [4, 5, 6, 7, 8, 3, 2, 1, 0] rfl ?_
          exact h
        · replace h := h.2 c9
          refine ev_aload_n 2 dX10_textOf_177 rfl ?_
          refine ev_getR (r := 252) G10 lay_245 (k := 10) rfl (Nat.le_of_ble_eq_true rfl) dX10_textOf_178 w_1236 ?_
          refine ev_iload 8 dX10_textOf_181 rfl ?_
          have hb183 := h.1
          replace h := h.2
          refine ev_iald lay_252 (Nat.le_of_ble_eq_true rfl) hb183 dX10_textOf_183 ?_
          refine ev_iload 7 dX10_textOf_184 rfl ?_
          refine ev_icmp_le 199 dX10_textOf_186 (by decide) (fun c9 => ?_) (fun c9 => ?_)
          · replace h := h.1 c9
            refine ev_iload 7 dX10_textOf_199 rfl ?_
            refine ev_istore (lv' := [(7, .int x7), (6, .int (x6 + 1)), (5, .int (x5 + 1)), (0, .ref 245), (1, .int x1), (2, .int x2), (3, .int x3), (4, .int x4), (8, .int x8)]) dX10_textOf_201 (Nat.le_of_ble_eq_true rfl) rfl ?_
            refine ev_iinc (lv' := [(8, .int (x8 + 1)), (7, .int x7), (6, .int (x6 + 1)), (5, .int (x5 + 1)), (0, .ref 245), (1, .int x1), (2, .int x2), (3, .int x3), (4, .int x4)]) (x8 + 1) 8 dX10_textOf_203 rfl rfl (Nat.le_of_ble_eq_true rfl) rfl ?_
            refine ev_goto 124 dX10_textOf_206 (by decide) ?_
            refine ev_sub [4, 5, 6, 7, 8, 3, 2, 1, 0] rfl ?_
            exact h
          · replace h := h.2 c9
            refine ev_aload_n 2 dX10_textOf_189 rfl ?_
            refine ev_getR (r := 252) G10 lay_245 (k := 10) rfl (Nat.le_of_ble_eq_true rfl) dX10_textOf_190 w_1236 ?_
            refine ev_iload 8 dX10_textOf_193 rfl ?_
            have hb195 := h.1
            replace h := h.2
            refine ev_iald lay_252 (Nat.le_of_ble_eq_true rfl) hb195 dX10_textOf_195 ?_
            refine ev_goto 201 dX10_textOf_196 (by decide) ?_
            refine ev_istore (lv' := [(7, .int (σ.1 252 (x8).toNatClampNeg)), (6, .int (x6 + 1)), (5, .int (x5 + 1)), (0, .ref 245), (1, .int x1), (2, .int x2), (3, .int x3), (4, .int x4), (8, .int x8)]) dX10_textOf_201 (Nat.le_of_ble_eq_true rfl) rfl ?_
            refine ev_iinc (lv' := [(8, .int (x8 + 1)), (7, .int (σ.1 252 (x8).toNatClampNeg)), (6, .int (x6 + 1)), (5, .int (x5 + 1)), (0, .ref 245), (1, .int x1), (2, .int x2), (3, .int x3), (4, .int x4)]) (x8 + 1) 8 dX10_textOf_203 rfl rfl (Nat.le_of_ble_eq_true rfl) rfl ?_
            refine ev_goto 124 dX10_textOf_206 (by decide) ?_
            refine ev_sub [4, 5, 6, 7, 8, 3, 2, 1, 0] rfl ?_
            exact h
abbrev KX10_countOf_4 (N : Nat) (σ : Sg) (Q : Option Value → Sg → Prop) (x1 : Int32) (x2 : Int32) (x3 : Int32) : Prop := Ev (N + 1) mX10_countOf 4 [(0, .ref 245), (1, .int x1), (2, .int x2), (3, .int x3)] [] σ Q
abbrev KX10_countOf_15 (N : Nat) (σ : Sg) (Q : Option Value → Sg → Prop) (x1 : Int32) (x2 : Int32) (x3 : Int32) (x4 : Int32) : Prop := Ev (N + 1) mX10_countOf 15 [(0, .ref 245), (1, .int x1), (2, .int x2), (3, .int x3), (4, .int x4)] [] σ Q
theorem EX10_countOf {N : Nat} {σ : Sg} {Q : Option Value → Sg → Prop} {x1 : Int32} (h : KX10_countOf_4 N σ Q x1 0 0) : EvM (N + 1) mX10_countOf [.ref 245, .int x1] σ Q := by
  refine ev_entry rfl (Nat.le_of_ble_eq_true rfl) (lv := [(0, .ref 245), (1, .int x1)]) rfl ?_
  refine ev_iconst 0 dX10_countOf_0 (by decide) ?_
  refine ev_istore_n (lv' := [(2, .int 0), (0, .ref 245), (1, .int x1)]) dX10_countOf_1 (Nat.le_of_ble_eq_true rfl) rfl ?_
  refine ev_iconst 0 dX10_countOf_2 (by decide) ?_
  refine ev_istore_n (lv' := [(3, .int 0), (2, .int 0), (0, .ref 245), (1, .int x1)]) dX10_countOf_3 (Nat.le_of_ble_eq_true rfl) rfl ?_
  refine ev_sub [2, 3, 1, 0] rfl ?_
  exact h
theorem BX10_countOf_4 {N : Nat} {σ : Sg} {Q : Option Value → Sg → Prop} {x1 : Int32} {x2 : Int32} {x3 : Int32} (h : ((σ.1 245 4) ≤ x3 → Q (some (.int x2)) σ) ∧ (¬ (σ.1 245 4) ≤ x3 → KX10_countOf_15 N σ Q x1 x2 x3 0)) : KX10_countOf_4 N σ Q x1 x2 x3 := by
  refine ev_iload_n 3 dX10_countOf_4 rfl ?_
  refine ev_aload_n 0 dX10_countOf_5 rfl ?_
  refine ev_get G10 lay_245 (k := 4) rfl (Nat.le_of_ble_eq_true rfl) dX10_countOf_6 w_1230 ?_
  refine ev_icmp_ge 57 dX10_countOf_9 (by decide) (fun c9 => ?_) (fun c9 => ?_)
  · replace h := h.1 c9
    refine ev_iload_n 2 dX10_countOf_57 rfl ?_
    exact ev_iret rfl dX10_countOf_58 h
  · replace h := h.2 c9
    refine ev_iconst 0 dX10_countOf_12 (by decide) ?_
    refine ev_istore (lv' := [(4, .int 0), (0, .ref 245), (1, .int x1), (2, .int x2), (3, .int x3)]) dX10_countOf_13 (Nat.le_of_ble_eq_true rfl) rfl ?_
    refine ev_sub [1, 2, 3, 4, 0] rfl ?_
    exact h
theorem BX10_countOf_15 {N : Nat} {σ : Sg} {Q : Option Value → Sg → Prop} {x1 : Int32} {x2 : Int32} {x3 : Int32} {x4 : Int32} (h : vp_in x3 8 ∧ (((σ.1 248 (x3).toNatClampNeg) ≤ x4 → KX10_countOf_4 N σ Q x1 x2 (x3 + 1)) ∧ (¬ (σ.1 248 (x3).toNatClampNeg) ≤ x4 → EvM N mX10_at [.ref 245, .int x3, .int x4] σ (fun r9 σ1 => ∃ v1, r9 = some (.int v1) ∧ ((v1 = x1 → KX10_countOf_15 N σ1 Q x1 (x2 + 1) x3 (x4 + 1)) ∧ (¬ v1 = x1 → KX10_countOf_15 N σ1 Q x1 (x2 + 0) x3 (x4 + 1))))))) : KX10_countOf_15 N σ Q x1 x2 x3 x4 := by
  refine ev_iload 4 dX10_countOf_15 rfl ?_
  refine ev_aload_n 0 dX10_countOf_17 rfl ?_
  refine ev_getR (r := 248) G10 lay_245 (k := 5) rfl (Nat.le_of_ble_eq_true rfl) dX10_countOf_18 w_1231 ?_
  refine ev_iload_n 3 dX10_countOf_21 rfl ?_
  have hb22 := h.1
  replace h := h.2
  refine ev_iald lay_248 (Nat.le_of_ble_eq_true rfl) hb22 dX10_countOf_22 ?_
  refine ev_icmp_ge 51 dX10_countOf_23 (by decide) (fun c9 => ?_) (fun c9 => ?_)
  · replace h := h.1 c9
    refine ev_iinc (lv' := [(3, .int (x3 + 1)), (0, .ref 245), (1, .int x1), (2, .int x2), (4, .int x4)]) (x3 + 1) 3 dX10_countOf_51 rfl rfl (Nat.le_of_ble_eq_true rfl) rfl ?_
    refine ev_goto 4 dX10_countOf_54 (by decide) ?_
    refine ev_sub [1, 2, 3, 0] rfl ?_
    exact h
  · replace h := h.2 c9
    refine ev_iload_n 2 dX10_countOf_26 rfl ?_
    refine ev_aload_n 0 dX10_countOf_27 rfl ?_
    refine ev_iload_n 3 dX10_countOf_28 rfl ?_
    refine ev_iload 4 dX10_countOf_29 rfl ?_
    refine ev_callV (M' := mX10_at) [.int x3, .int x4] vX10_at G10 lay_245 dX10_countOf_31 w_1471 rfl rfl (Nat.le_of_ble_eq_true rfl) h ?_
    rintro r9 σ1 ⟨v1, rfl, h⟩
    refine ev_iload_n 1 dX10_countOf_34 rfl ?_
    refine ev_icmp_ne 42 dX10_countOf_35 (by decide) (fun c9 => ?_) (fun c9 => ?_)
    · replace h := h.2 c9
      refine ev_iconst 0 dX10_countOf_42 (by decide) ?_
      refine ev_iadd dX10_countOf_43 ?_
      refine ev_istore_n (lv' := [(2, .int (x2 + 0)), (0, .ref 245), (1, .int x1), (3, .int x3), (4, .int x4)]) dX10_countOf_44 (Nat.le_of_ble_eq_true rfl) rfl ?_
      refine ev_iinc (lv' := [(4, .int (x4 + 1)), (2, .int (x2 + 0)), (0, .ref 245), (1, .int x1), (3, .int x3)]) (x4 + 1) 4 dX10_countOf_45 rfl rfl (Nat.le_of_ble_eq_true rfl) rfl ?_
      refine ev_goto 15 dX10_countOf_48 (by decide) ?_
      refine ev_sub [2, 3, 1, 4, 0] rfl ?_
      exact h
    · replace h := h.1 c9
      refine ev_iconst 1 dX10_countOf_38 (by decide) ?_
      refine ev_goto 43 dX10_countOf_39 (by decide) ?_
      refine ev_iadd dX10_countOf_43 ?_
      refine ev_istore_n (lv' := [(2, .int (x2 + 1)), (0, .ref 245), (1, .int x1), (3, .int x3), (4, .int x4)]) dX10_countOf_44 (Nat.le_of_ble_eq_true rfl) rfl ?_
      refine ev_iinc (lv' := [(4, .int (x4 + 1)), (2, .int (x2 + 1)), (0, .ref 245), (1, .int x1), (3, .int x3)]) (x4 + 1) 4 dX10_countOf_45 rfl rfl (Nat.le_of_ble_eq_true rfl) rfl ?_
      refine ev_goto 15 dX10_countOf_48 (by decide) ?_
      refine ev_sub [2, 3, 1, 4, 0] rfl ?_
      exact h
abbrev KX10_allSigns_4 (N : Nat) (σ : Sg) (Q : Option Value → Sg → Prop) (x1 : Int32) (x2 : Int32) : Prop := Ev (N + 1) mX10_allSigns 4 [(0, .ref 245), (1, .int x1), (2, .int x2)] [] σ Q
abbrev KX10_allSigns_14 (N : Nat) (σ : Sg) (Q : Option Value → Sg → Prop) (x1 : Int32) (x2 : Int32) (x3 : Int32) : Prop := Ev (N + 1) mX10_allSigns 14 [(0, .ref 245), (1, .int x1), (2, .int x2), (3, .int x3)] [] σ Q
theorem EX10_allSigns {N : Nat} {σ : Sg} {Q : Option Value → Sg → Prop} (h : KX10_allSigns_4 N σ Q 0 0) : EvM (N + 1) mX10_allSigns [.ref 245] σ Q := by
  refine ev_entry rfl (Nat.le_of_ble_eq_true rfl) (lv := [(0, .ref 245)]) rfl ?_
  refine ev_iconst 0 dX10_allSigns_0 (by decide) ?_
  refine ev_istore_n (lv' := [(1, .int 0), (0, .ref 245)]) dX10_allSigns_1 (Nat.le_of_ble_eq_true rfl) rfl ?_
  refine ev_iconst 0 dX10_allSigns_2 (by decide) ?_
  refine ev_istore_n (lv' := [(2, .int 0), (1, .int 0), (0, .ref 245)]) dX10_allSigns_3 (Nat.le_of_ble_eq_true rfl) rfl ?_
  refine ev_sub [2, 1, 0] rfl ?_
  exact h
theorem BX10_allSigns_4 {N : Nat} {σ : Sg} {Q : Option Value → Sg → Prop} {x1 : Int32} {x2 : Int32} (h : ((σ.1 245 4) ≤ x2 → Q (some (.int x1)) σ) ∧ (¬ (σ.1 245 4) ≤ x2 → KX10_allSigns_14 N σ Q x1 x2 0)) : KX10_allSigns_4 N σ Q x1 x2 := by
  refine ev_iload_n 2 dX10_allSigns_4 rfl ?_
  refine ev_aload_n 0 dX10_allSigns_5 rfl ?_
  refine ev_get G10 lay_245 (k := 4) rfl (Nat.le_of_ble_eq_true rfl) dX10_allSigns_6 w_1230 ?_
  refine ev_icmp_ge 53 dX10_allSigns_9 (by decide) (fun c9 => ?_) (fun c9 => ?_)
  · replace h := h.1 c9
    refine ev_iload_n 1 dX10_allSigns_53 rfl ?_
    exact ev_iret rfl dX10_allSigns_54 h
  · replace h := h.2 c9
    refine ev_iconst 0 dX10_allSigns_12 (by decide) ?_
    refine ev_istore_n (lv' := [(3, .int 0), (0, .ref 245), (1, .int x1), (2, .int x2)]) dX10_allSigns_13 (Nat.le_of_ble_eq_true rfl) rfl ?_
    refine ev_sub [1, 2, 3, 0] rfl ?_
    exact h
theorem BX10_allSigns_14 {N : Nat} {σ : Sg} {Q : Option Value → Sg → Prop} {x1 : Int32} {x2 : Int32} {x3 : Int32} (h : vp_in x2 8 ∧ (((σ.1 248 (x2).toNatClampNeg) ≤ x3 → KX10_allSigns_4 N σ Q x1 (x2 + 1)) ∧ (¬ (σ.1 248 (x2).toNatClampNeg) ≤ x3 → EvM N mX10_at [.ref 245, .int x2, .int x3] σ (fun r9 σ1 => ∃ v1, r9 = some (.int v1) ∧ ((v1 < 0 → KX10_allSigns_14 N σ1 Q (x1 + 0) x2 (x3 + 1)) ∧ (¬ v1 < 0 → KX10_allSigns_14 N σ1 Q (x1 + 1) x2 (x3 + 1))))))) : KX10_allSigns_14 N σ Q x1 x2 x3 := by
  refine ev_iload_n 3 dX10_allSigns_14 rfl ?_
  refine ev_aload_n 0 dX10_allSigns_15 rfl ?_
  refine ev_getR (r := 248) G10 lay_245 (k := 5) rfl (Nat.le_of_ble_eq_true rfl) dX10_allSigns_16 w_1231 ?_
  refine ev_iload_n 2 dX10_allSigns_19 rfl ?_
  have hb20 := h.1
  replace h := h.2
  refine ev_iald lay_248 (Nat.le_of_ble_eq_true rfl) hb20 dX10_allSigns_20 ?_
  refine ev_icmp_ge 47 dX10_allSigns_21 (by decide) (fun c9 => ?_) (fun c9 => ?_)
  · replace h := h.1 c9
    refine ev_iinc (lv' := [(2, .int (x2 + 1)), (0, .ref 245), (1, .int x1), (3, .int x3)]) (x2 + 1) 2 dX10_allSigns_47 rfl rfl (Nat.le_of_ble_eq_true rfl) rfl ?_
    refine ev_goto 4 dX10_allSigns_50 (by decide) ?_
    refine ev_sub [1, 2, 0] rfl ?_
    exact h
  · replace h := h.2 c9
    refine ev_iload_n 1 dX10_allSigns_24 rfl ?_
    refine ev_aload_n 0 dX10_allSigns_25 rfl ?_
    refine ev_iload_n 2 dX10_allSigns_26 rfl ?_
    refine ev_iload_n 3 dX10_allSigns_27 rfl ?_
    refine ev_callV (M' := mX10_at) [.int x2, .int x3] vX10_at G10 lay_245 dX10_allSigns_28 w_1471 rfl rfl (Nat.le_of_ble_eq_true rfl) h ?_
    rintro r9 σ1 ⟨v1, rfl, h⟩
    refine ev_if_lt 38 dX10_allSigns_31 (by decide) (fun c9 => ?_) (fun c9 => ?_)
    · replace h := h.1 c9
      refine ev_iconst 0 dX10_allSigns_38 (by decide) ?_
      refine ev_iadd dX10_allSigns_39 ?_
      refine ev_istore_n (lv' := [(1, .int (x1 + 0)), (0, .ref 245), (2, .int x2), (3, .int x3)]) dX10_allSigns_40 (Nat.le_of_ble_eq_true rfl) rfl ?_
      refine ev_iinc (lv' := [(3, .int (x3 + 1)), (1, .int (x1 + 0)), (0, .ref 245), (2, .int x2)]) (x3 + 1) 3 dX10_allSigns_41 rfl rfl (Nat.le_of_ble_eq_true rfl) rfl ?_
      refine ev_goto 14 dX10_allSigns_44 (by decide) ?_
      refine ev_sub [2, 1, 3, 0] rfl ?_
      exact h
    · replace h := h.2 c9
      refine ev_iconst 1 dX10_allSigns_34 (by decide) ?_
      refine ev_goto 39 dX10_allSigns_35 (by decide) ?_
      refine ev_iadd dX10_allSigns_39 ?_
      refine ev_istore_n (lv' := [(1, .int (x1 + 1)), (0, .ref 245), (2, .int x2), (3, .int x3)]) dX10_allSigns_40 (Nat.le_of_ble_eq_true rfl) rfl ?_
      refine ev_iinc (lv' := [(3, .int (x3 + 1)), (1, .int (x1 + 1)), (0, .ref 245), (2, .int x2)]) (x3 + 1) 3 dX10_allSigns_41 rfl rfl (Nat.le_of_ble_eq_true rfl) rfl ?_
      refine ev_goto 14 dX10_allSigns_44 (by decide) ?_
      refine ev_sub [2, 1, 3, 0] rfl ?_
      exact h
theorem EX10_counted {N : Nat} {σ : Sg} {Q : Option Value → Sg → Prop} {x1 : Int32} (h : EvM (N + 2) mX10_isSign [.ref 245, .int x1] σ (fun r9 σ1 => ∃ v1, r9 = some (.int v1) ∧ ((v1 = 0 → Q (some (.int (-1))) σ1) ∧ (¬ v1 = 0 → EvM (N + 2) mX10_countOf [.ref 245, .int x1] σ1 (fun r9 σ2 => ∃ v2, r9 = some (.int v2) ∧ (Q (some (.int v2)) σ2)))))) : EvM (N + 3) mX10_counted [.ref 245, .int x1] σ Q := by
  refine ev_entry rfl (Nat.le_of_ble_eq_true rfl) (lv := [(0, .ref 245), (1, .int x1)]) rfl ?_
  refine ev_aload_n 0 dX10_counted_0 rfl ?_
  refine ev_iload_n 1 dX10_counted_1 rfl ?_
  refine ev_callV (M' := mX10_isSign) [.int x1] vX10_isSign G10 lay_245 dX10_counted_2 w_1479 rfl rfl (Nat.le_of_ble_eq_true rfl) h ?_
  rintro r9 σ1 ⟨v1, rfl, h⟩
  refine ev_if_eq 16 dX10_counted_5 (by decide) (fun c9 => ?_) (fun c9 => ?_)
  · replace h := h.1 c9
    refine ev_iconst (-1) dX10_counted_16 (by decide) ?_
    exact ev_iret rfl dX10_counted_17 h
  · replace h := h.2 c9
    refine ev_aload_n 0 dX10_counted_8 rfl ?_
    refine ev_iload_n 1 dX10_counted_9 rfl ?_
    refine ev_callV (M' := mX10_countOf) [.int x1] vX10_countOf G10 lay_245 dX10_counted_10 w_1483 rfl rfl (Nat.le_of_ble_eq_true rfl) h ?_
    rintro r9 σ2 ⟨v2, rfl, h⟩
    refine ev_goto 17 dX10_counted_13 (by decide) ?_
    exact ev_iret rfl dX10_counted_17 h
abbrev KX10_besides_5 (N : Nat) (σ : Sg) (Q : Option Value → Sg → Prop) (x1 : Int32) (x2 : Int32) (x3 : Int32) (x4 : Int32) : Prop := Ev (N + 1) mX10_besides 5 [(0, .ref 245), (1, .int x1), (2, .int x2), (3, .int x3), (4, .int x4)] [] σ Q
abbrev KX10_besides_17 (N : Nat) (σ : Sg) (Q : Option Value → Sg → Prop) (x1 : Int32) (x2 : Int32) (x3 : Int32) (x4 : Int32) (x5 : Int32) : Prop := Ev (N + 1) mX10_besides 17 [(0, .ref 245), (1, .int x1), (2, .int x2), (3, .int x3), (4, .int x4), (5, .int x5)] [] σ Q
theorem EX10_besides {N : Nat} {σ : Sg} {Q : Option Value → Sg → Prop} {x1 : Int32} {x2 : Int32} (h : KX10_besides_5 N σ Q x1 x2 0 0) : EvM (N + 1) mX10_besides [.ref 245, .int x1, .int x2] σ Q := by
  refine ev_entry rfl (Nat.le_of_ble_eq_true rfl) (lv := [(0, .ref 245), (1, .int x1), (2, .int x2)]) rfl ?_
  refine ev_iconst 0 dX10_besides_0 (by decide) ?_
  refine ev_istore_n (lv' := [(3, .int 0), (0, .ref 245), (1, .int x1), (2, .int x2)]) dX10_besides_1 (Nat.le_of_ble_eq_true rfl) rfl ?_
  refine ev_iconst 0 dX10_besides_2 (by decide) ?_
  refine ev_istore (lv' := [(4, .int 0), (3, .int 0), (0, .ref 245), (1, .int x1), (2, .int x2)]) dX10_besides_3 (Nat.le_of_ble_eq_true rfl) rfl ?_
  refine ev_sub [2, 3, 4, 1, 0] rfl ?_
  exact h
theorem BX10_besides_5 {N : Nat} {σ : Sg} {Q : Option Value → Sg → Prop} {x1 : Int32} {x2 : Int32} {x3 : Int32} {x4 : Int32} (h : ((σ.1 245 4) ≤ x4 → Q (some (.int x3)) σ) ∧ (¬ (σ.1 245 4) ≤ x4 → KX10_besides_17 N σ Q x1 x2 x3 x4 1)) : KX10_besides_5 N σ Q x1 x2 x3 x4 := by
  refine ev_iload 4 dX10_besides_5 rfl ?_
  refine ev_aload_n 0 dX10_besides_7 rfl ?_
  refine ev_get G10 lay_245 (k := 4) rfl (Nat.le_of_ble_eq_true rfl) dX10_besides_8 w_1230 ?_
  refine ev_icmp_ge 97 dX10_besides_11 (by decide) (fun c9 => ?_) (fun c9 => ?_)
  · replace h := h.1 c9
    refine ev_iload_n 3 dX10_besides_97 rfl ?_
    exact ev_iret rfl dX10_besides_98 h
  · replace h := h.2 c9
    refine ev_iconst 1 dX10_besides_14 (by decide) ?_
    refine ev_istore (lv' := [(5, .int 1), (0, .ref 245), (1, .int x1), (2, .int x2), (3, .int x3), (4, .int x4)]) dX10_besides_15 (Nat.le_of_ble_eq_true rfl) rfl ?_
    refine ev_sub [1, 2, 3, 4, 5, 0] rfl ?_
    exact h
theorem BX10_besides_17 {N : Nat} {σ : Sg} {Q : Option Value → Sg → Prop} {x1 : Int32} {x2 : Int32} {x3 : Int32} {x4 : Int32} {x5 : Int32} (h : vp_in x4 8 ∧ (((σ.1 248 (x4).toNatClampNeg) ≤ x5 → KX10_besides_5 N σ Q x1 x2 x3 (x4 + 1)) ∧ (¬ (σ.1 248 (x4).toNatClampNeg) ≤ x5 → EvM N mX10_at [.ref 245, .int x4, .int (x5 - 1)] σ (fun r9 σ1 => ∃ v1, r9 = some (.int v1) ∧ (EvM N mX10_at [.ref 245, .int x4, .int x5] σ1 (fun r9 σ2 => ∃ v2, r9 = some (.int v2) ∧ ((v1 < 0 → KX10_besides_17 N σ2 Q x1 x2 (x3 + 0) x4 (x5 + 1)) ∧ (¬ v1 < 0 → (v2 < 0 → KX10_besides_17 N σ2 Q x1 x2 (x3 + 0) x4 (x5 + 1)) ∧ (¬ v2 < 0 → (x1 < 0 → KX10_besides_17 N σ2 Q x1 x2 (x3 + 1) x4 (x5 + 1)) ∧ (¬ x1 < 0 → (v1 = x1 → (v2 = x2 → KX10_besides_17 N σ2 Q x1 x2 (x3 + 1) x4 (x5 + 1)) ∧ (¬ v2 = x2 → KX10_besides_17 N σ2 Q x1 x2 (x3 + 0) x4 (x5 + 1))) ∧ (¬ v1 = x1 → KX10_besides_17 N σ2 Q x1 x2 (x3 + 0) x4 (x5 + 1)))))))))))) : KX10_besides_17 N σ Q x1 x2 x3 x4 x5 := by
  refine ev_iload 5 dX10_besides_17 rfl ?_
  refine ev_aload_n 0 dX10_besides_19 rfl ?_
  refine ev_getR (r := 248) G10 lay_245 (k := 5) rfl (Nat.le_of_ble_eq_true rfl) dX10_besides_20 w_1231 ?_
  refine ev_iload 4 dX10_besides_23 rfl ?_
  have hb25 := h.1
  replace h := h.2
  refine ev_iald lay_248 (Nat.le_of_ble_eq_true rfl) hb25 dX10_besides_25 ?_
  refine ev_icmp_ge 91 dX10_besides_26 (by decide) (fun c9 => ?_) (fun c9 => ?_)
  · replace h := h.1 c9
    refine ev_iinc (lv' := [(4, .int (x4 + 1)), (0, .ref 245), (1, .int x1), (2, .int x2), (3, .int x3), (5, .int x5)]) (x4 + 1) 4 dX10_besides_91 rfl rfl (Nat.le_of_ble_eq_true rfl) rfl ?_
    refine ev_goto 5 dX10_besides_94 (by decide) ?_
    refine ev_sub [1, 2, 3, 4, 0] rfl ?_
    exact h
  · replace h := h.2 c9
    refine ev_aload_n 0 dX10_besides_29 rfl ?_
    refine ev_iload 4 dX10_besides_30 rfl ?_
    refine ev_iload 5 dX10_besides_32 rfl ?_
    refine ev_iconst 1 dX10_besides_34 (by decide) ?_
    refine ev_isub dX10_besides_35 ?_
    refine ev_callV (M' := mX10_at) [.int x4, .int (x5 - 1)] vX10_at G10 lay_245 dX10_besides_36 w_1471 rfl rfl (Nat.le_of_ble_eq_true rfl) h ?_
    rintro r9 σ1 ⟨v1, rfl, h⟩
    refine ev_istore (lv' := [(6, .int v1), (0, .ref 245), (1, .int x1), (2, .int x2), (3, .int x3), (4, .int x4), (5, .int x5)]) dX10_besides_39 (Nat.le_of_ble_eq_true rfl) rfl ?_
    refine ev_aload_n 1 dX10_besides_41 rfl ?_
    refine ev_iload 5 dX10_besides_42 rfl ?_
    refine ev_iload 6 dX10_besides_44 rfl ?_
    refine ev_callV (M' := mX10_at) [.int x4, .int x5] vX10_at G10 lay_245 dX10_besides_46 w_1471 rfl rfl (Nat.le_of_ble_eq_true rfl) h ?_
    rintro r9 σ2 ⟨v2, rfl, h⟩
    refine ev_istore (lv' := [(7, .int v2), (6, .int v1), (0, .ref 245), (1, .int x1), (2, .int x2), (3, .int x3), (4, .int x4), (5, .int x5)]) dX10_besides_49 (Nat.le_of_ble_eq_true rfl) rfl ?_
    refine ev_iload_n 5 dX10_besides_51 rfl ?_
    refine ev_iload 1 dX10_besides_52 rfl ?_
    refine ev_if_lt 82 dX10_besides_54 (by decide) (fun c9 => ?_) (fun c9 => ?_)
    · replace h := h.1 c9
      refine ev_iconst 0 dX10_besides_82 (by decide) ?_
      refine ev_iadd dX10_besides_83 ?_
      refine ev_istore_n (lv' := [(3, .int (x3 + 0)), (7, .int v2), (6, .int v1), (0, .ref 245), (1, .int x1), (2, .int x2), (4, .int x4), (5, .int x5)]) dX10_besides_84 (Nat.le_of_ble_eq_true rfl) rfl ?_
      refine ev_iinc (lv' := [(5, .int (x5 + 1)), (3, .int (x3 + 0)), (7, .int v2), (6, .int v1), (0, .ref 245), (1, .int x1), (2, .int x2), (4, .int x4)]) (x5 + 1) 7 dX10_besides_85 rfl rfl (Nat.le_of_ble_eq_true rfl) rfl ?_
      refine ev_goto 17 dX10_besides_88 (by decide) ?_
      refine ev_sub [4, 5, 6, 1, 7, 0] rfl ?_
      exact h
    · replace h := h.2 c9
      refine ev_iload 0 dX10_besides_57 rfl ?_
      refine ev_if_lt 82 dX10_besides_59 (by decide) (fun c9 => ?_) (fun c9 => ?_)
      · replace h := h.1 c9
        refine ev_iconst 0 dX10_besides_82 (by decide) ?_
        refine ev_iadd dX10_besides_83 ?_
        refine ev_istore_n (lv' := [(3, .int (x3 + 0)), (7, .int v2), (6, .int v1), (0, .ref 245), (1, .int x1), (2, .int x2), (4, .int x4), (5, .int x5)]) dX10_besides_84 (Nat.le_of_ble_eq_true rfl) rfl ?_
        refine ev_iinc (lv' := [(5, .int (x5 + 1)), (3, .int (x3 + 0)), (7, .int v2), (6, .int v1), (0, .ref 245), (1, .int x1), (2, .int x2), (4, .int x4)]) (x5 + 1) 7 dX10_besides_85 rfl rfl (Nat.le_of_ble_eq_true rfl) rfl ?_
        refine ev_goto 17 dX10_besides_88 (by decide) ?_
        refine ev_sub [4, 5, 6, 1, 7, 0] rfl ?_
        exact h
      · replace h := h.2 c9
        refine ev_iload_n 3 dX10_besides_62 rfl ?_
        refine ev_if_lt 78 dX10_besides_63 (by decide) (fun c9 => ?_) (fun c9 => ?_)
        · replace h := h.1 c9
          refine ev_iconst 1 dX10_besides_78 (by decide) ?_
          refine ev_goto 83 dX10_besides_79 (by decide) ?_
          refine ev_iadd dX10_besides_83 ?_
          refine ev_istore_n (lv' := [(3, .int (x3 + 1)), (7, .int v2), (6, .int v1), (0, .ref 245), (1, .int x1), (2, .int x2), (4, .int x4), (5, .int x5)]) dX10_besides_84 (Nat.le_of_ble_eq_true rfl) rfl ?_
          refine ev_iinc (lv' := [(5, .int (x5 + 1)), (3, .int (x3 + 1)), (7, .int v2), (6, .int v1), (0, .ref 245), (1, .int x1), (2, .int x2), (4, .int x4)]) (x5 + 1) 7 dX10_besides_85 rfl rfl (Nat.le_of_ble_eq_true rfl) rfl ?_
          refine ev_goto 17 dX10_besides_88 (by decide) ?_
          refine ev_sub [4, 5, 6, 1, 7, 0] rfl ?_
          exact h
        · replace h := h.2 c9
          refine ev_iload 1 dX10_besides_66 rfl ?_
          refine ev_iload_n 3 dX10_besides_68 rfl ?_
          refine ev_icmp_ne 82 dX10_besides_69 (by decide) (fun c9 => ?_) (fun c9 => ?_)
          · replace h := h.2 c9
            refine ev_iconst 0 dX10_besides_82 (by decide) ?_
            refine ev_iadd dX10_besides_83 ?_
            refine ev_istore_n (lv' := [(3, .int (x3 + 0)), (7, .int v2), (6, .int v1), (0, .ref 245), (1, .int x1), (2, .int x2), (4, .int x4), (5, .int x5)]) dX10_besides_84 (Nat.le_of_ble_eq_true rfl) rfl ?_
            refine ev_iinc (lv' := [(5, .int (x5 + 1)), (3, .int (x3 + 0)), (7, .int v2), (6, .int v1), (0, .ref 245), (1, .int x1), (2, .int x2), (4, .int x4)]) (x5 + 1) 7 dX10_besides_85 rfl rfl (Nat.le_of_ble_eq_true rfl) rfl ?_
            refine ev_goto 17 dX10_besides_88 (by decide) ?_
            refine ev_sub [4, 5, 6, 1, 7, 0] rfl ?_
            exact h
          · replace h := h.1 c9
            refine ev_iload 0 dX10_besides_72 rfl ?_
            refine ev_iload_n 4 dX10_besides_74 rfl ?_
            refine ev_icmp_ne 82 dX10_besides_75 (by decide) (fun c9 => ?_) (fun c9 => ?_)
            · replace h := h.2 c9
              refine ev_iconst 0 dX10_besides_82 (by decide) ?_
              refine ev_iadd dX10_besides_83 ?_
              refine ev_istore_n (lv' := [(3, .int (x3 + 0)), (7, .int v2), (6, .int v1), (0, .ref 245), (1, .int x1), (2, .int x2), (4, .int x4), (5, .int x5)]) dX10_besides_84 (Nat.le_of_ble_eq_true rfl) rfl ?_
              refine ev_iinc (lv' := [(5, .int (x5 + 1)), (3, .int (x3 + 0)), (7, .int v2), (6, .int v1), (0, .ref 245), (1, .int x1), (2, .int x2), (4, .int x4)]) (x5 + 1) 7 dX10_besides_85 rfl rfl (Nat.le_of_ble_eq_true rfl) rfl ?_
              refine ev_goto 17 dX10_besides_88 (by decide) ?_
              refine ev_sub [4, 5, 6, 1, 7, 0] rfl ?_
              exact h
            · replace h := h.1 c9
              refine ev_iconst 1 dX10_besides_78 (by decide) ?_
              refine ev_goto 83 dX10_besides_79 (by decide) ?_
              refine ev_iadd dX10_besides_83 ?_
              refine ev_istore_n (lv' := [(3, .int (x3 + 1)), (7, .int v2), (6, .int v1), (0, .ref 245), (1, .int x1), (2, .int x2), (4, .int x4), (5, .int x5)]) dX10_besides_84 (Nat.le_of_ble_eq_true rfl) rfl ?_
              refine ev_iinc (lv' := [(5, .int (x5 + 1)), (3, .int (x3 + 1)), (7, .int v2), (6, .int v1), (0, .ref 245), (1, .int x1), (2, .int x2), (4, .int x4)]) (x5 + 1) 7 dX10_besides_85 rfl rfl (Nat.le_of_ble_eq_true rfl) rfl ?_
              refine ev_goto 17 dX10_besides_88 (by decide) ?_
              refine ev_sub [4, 5, 6, 1, 7, 0] rfl ?_
              exact h
theorem EX10_beside {N : Nat} {σ : Sg} {Q : Option Value → Sg → Prop} {x1 : Int32} {x2 : Int32} (h : EvM (N + 2) mX10_isSign [.ref 245, .int x1] σ (fun r9 σ1 => ∃ v1, r9 = some (.int v1) ∧ ((v1 = 0 → Q (some (.int (-1))) σ1) ∧ (¬ v1 = 0 → EvM (N + 2) mX10_isSign [.ref 245, .int x2] σ1 (fun r9 σ2 => ∃ v2, r9 = some (.int v2) ∧ ((v2 = 0 → Q (some (.int (-1))) σ2) ∧ (¬ v2 = 0 → EvM (N + 2) mX10_besides [.ref 245, .int x1, .int x2] σ2 (fun r9 σ3 => ∃ v3, r9 = some (.int v3) ∧ (Q (some (.int v3)) σ3))))))))) : EvM (N + 3) mX10_beside [.ref 245, .int x1, .int x2] σ Q := by
  refine ev_entry rfl (Nat.le_of_ble_eq_true rfl) (lv := [(0, .ref 245), (1, .int x1), (2, .int x2)]) rfl ?_
  refine ev_aload_n 0 dX10_beside_0 rfl ?_
  refine ev_iload_n 1 dX10_beside_1 rfl ?_
  refine ev_callV (M' := mX10_isSign) [.int x1] vX10_isSign G10 lay_245 dX10_beside_2 w_1479 rfl rfl (Nat.le_of_ble_eq_true rfl) h ?_
  rintro r9 σ1 ⟨v1, rfl, h⟩
  refine ev_if_eq 25 dX10_beside_5 (by decide) (fun c9 => ?_) (fun c9 => ?_)
  · replace h := h.1 c9
    refine ev_iconst (-1) dX10_beside_25 (by decide) ?_
    exact ev_iret rfl dX10_beside_26 h
  · replace h := h.2 c9
    refine ev_aload_n 0 dX10_beside_8 rfl ?_
    refine ev_iload_n 2 dX10_beside_9 rfl ?_
    refine ev_callV (M' := mX10_isSign) [.int x2] vX10_isSign G10 lay_245 dX10_beside_10 w_1479 rfl rfl (Nat.le_of_ble_eq_true rfl) h ?_
    rintro r9 σ2 ⟨v2, rfl, h⟩
    refine ev_if_eq 25 dX10_beside_13 (by decide) (fun c9 => ?_) (fun c9 => ?_)
    · replace h := h.1 c9
      refine ev_iconst (-1) dX10_beside_25 (by decide) ?_
      exact ev_iret rfl dX10_beside_26 h
    · replace h := h.2 c9
      refine ev_aload_n 0 dX10_beside_16 rfl ?_
      refine ev_iload_n 1 dX10_beside_17 rfl ?_
      refine ev_iload_n 2 dX10_beside_18 rfl ?_
      refine ev_callV (M' := mX10_besides) [.int x1, .int x2] vX10_besides G10 lay_245 dX10_beside_19 w_1491 rfl rfl (Nat.le_of_ble_eq_true rfl) h ?_
      rintro r9 σ3 ⟨v3, rfl, h⟩
      refine ev_goto 26 dX10_beside_22 (by decide) ?_
      exact ev_iret rfl dX10_beside_26 h
abbrev KX10_chance_106 (N : Nat) (σ : Sg) (Q : Option Value → Sg → Prop) (x3 : Int32) (y6 : Int64) (y8 : Int64) (y10 : Int64) (y12 : Int64) : Prop := Ev (N + 3) mX10_chance 106 [(3, .int x3), (6, .long y6), (8, .long y8), (10, .long y10), (12, .long y12)] [] σ Q
theorem EX10_chance {N : Nat} {σ : Sg} {Q : Option Value → Sg → Prop} {x1 : Int32} {x2 : Int32} {x3 : Int32} (h : EvM (N + 2) mX10_isSign [.ref 245, .int x1] σ (fun r9 σ1 => ∃ v1, r9 = some (.int v1) ∧ ((v1 = 0 → Q (some (.long (-1))) σ1) ∧ (¬ v1 = 0 → EvM (N + 2) mX10_isSign [.ref 245, .int x2] σ1 (fun r9 σ2 => ∃ v2, r9 = some (.int v2) ∧ ((v2 = 0 → Q (some (.long (-1))) σ2) ∧ (¬ v2 = 0 → ((0 ≤ ((x3).toInt64).toInt ∧ ((x3).toInt64).toInt ≤ 1) → EvM (N + 2) mX10_allSigns [.ref 245] σ2 (fun r9 σ3 => ∃ v3, r9 = some (.int v3) ∧ ((0 ≤ (lg_cmp ((v3).toInt64) 2) → EvM (N + 2) mX10_besides [.ref 245, .int (-4), .int (-4)] σ3 (fun r9 σ4 => ∃ v4, r9 = some (.int v4) ∧ (EvM (N + 2) mX10_countOf [.ref 245, .int x1] σ4 (fun r9 σ5 => ∃ v5, r9 = some (.int v5) ∧ ((x1 = x2 → EvM (N + 2) mX10_countOf [.ref 245, .int x1] σ5 (fun r9 σ7 => ∃ v7, r9 = some (.int v7) ∧ (KX10_chance_106 N σ7 Q x3 ((((v4).toInt64) * ((v5).toInt64)) * ((v7 - 1).toInt64)) (((v3).toInt64) * (((v3).toInt64) - 1)) ((((v4).toInt64) * ((v5).toInt64)) * ((v7 - 1).toInt64)) (((v3).toInt64) * (((v3).toInt64) - 1))))) ∧ (¬ x1 = x2 → EvM (N + 2) mX10_countOf [.ref 245, .int x2] σ5 (fun r9 σ6 => ∃ v6, r9 = some (.int v6) ∧ (KX10_chance_106 N σ6 Q x3 ((((v4).toInt64) * ((v5).toInt64)) * ((v6).toInt64)) (((v3).toInt64) * (((v3).toInt64) - 1)) ((((v4).toInt64) * ((v5).toInt64)) * ((v6).toInt64)) (((v3).toInt64) * (((v3).toInt64) - 1)))))))))) ∧ (¬ 0 ≤ (lg_cmp ((v3).toInt64) 2) → Q (some (.long ((x3).toInt64))) σ3)))) ∧ (¬ (0 ≤ ((x3).toInt64).toInt ∧ ((x3).toInt64).toInt ≤ 1) → Q (some (.long (-1))) σ2)))))))) : EvM (N + 3) mX10_chance [.ref 245, .int x1, .int x2, .int x3] σ Q := by
  refine ev_entry rfl (Nat.le_of_ble_eq_true rfl) (lv := [(0, .ref 245), (1, .int x1), (2, .int x2), (3, .int x3)]) rfl ?_
  refine ev_aload_n 0 dX10_chance_0 rfl ?_
  refine ev_iload_n 1 dX10_chance_1 rfl ?_
  refine ev_callV (M' := mX10_isSign) [.int x1] vX10_isSign G10 lay_245 dX10_chance_2 w_1479 rfl rfl (Nat.le_of_ble_eq_true rfl) h ?_
  rintro r9 σ1 ⟨v1, rfl, h⟩
  refine ev_if_eq 26 dX10_chance_5 (by decide) (fun c9 => ?_) (fun c9 => ?_)
  · replace h := h.1 c9
    refine ev_ldc2 (-1) dX10_chance_26 w_1499 ?_
    exact ev_lret rfl dX10_chance_29 h
  · replace h := h.2 c9
    refine ev_aload_n 0 dX10_chance_8 rfl ?_
    refine ev_iload_n 2 dX10_chance_9 rfl ?_
    refine ev_callV (M' := mX10_isSign) [.int x2] vX10_isSign G10 lay_245 dX10_chance_10 w_1479 rfl rfl (Nat.le_of_ble_eq_true rfl) h ?_
    rintro r9 σ2 ⟨v2, rfl, h⟩
    refine ev_if_eq 26 dX10_chance_13 (by decide) (fun c9 => ?_) (fun c9 => ?_)
    · replace h := h.1 c9
      refine ev_ldc2 (-1) dX10_chance_26 w_1499 ?_
      exact ev_lret rfl dX10_chance_29 h
    · replace h := h.2 c9
      refine ev_iload_n 3 dX10_chance_16 rfl ?_
      refine ev_i2l dX10_chance_17 ?_
      refine ev_lconst 0 dX10_chance_18 (by decide) ?_
      refine ev_lconst 1 dX10_chance_19 (by decide) ?_
      refine ev_callS (M' := mX10_in) [.long ((x3).toInt64), .long 0, .long 1] vX10_in dX10_chance_20 w_1421 rfl rfl (Nat.le_of_ble_eq_true rfl) (C10_in (P := 0 ≤ ((x3).toInt64).toInt ∧ ((x3).toInt64).toInt ≤ 1) (by (try simp only [i_l]); exact Iff.rfl) (Q := fun r9 s9 => σ2 = s9 ∧ ((r9 = some (.int 1) ∧ (0 ≤ ((x3).toInt64).toInt ∧ ((x3).toInt64).toInt ≤ 1)) ∨ (r9 = some (.int 0) ∧ ¬ (0 ≤ ((x3).toInt64).toInt ∧ ((x3).toInt64).toInt ≤ 1)))) ⟨fun c9 => ⟨rfl, Or.inl ⟨rfl, c9⟩⟩, fun c9 => ⟨rfl, Or.inr ⟨rfl, c9⟩⟩⟩) ?_
      rintro r9 s9 ⟨rfl, ⟨rfl, c9⟩ | ⟨rfl, c9⟩⟩
      · replace h := h.1 c9
        refine ev_if_ne 30 dX10_chance_23 (by decide) (fun c9 => ?_) (fun c9 => ?_)
        · refine ev_aload_n 0 dX10_chance_30 rfl ?_
          refine ev_callV (M' := mX10_allSigns) [] vX10_allSigns G10 lay_245 dX10_chance_31 w_1500 rfl rfl (Nat.le_of_ble_eq_true rfl) h ?_
          rintro r9 σ3 ⟨v3, rfl, h⟩
          refine ev_i2l dX10_chance_34 ?_
          refine ev_lstore (lv' := [(4, .long ((v3).toInt64)), (0, .ref 245), (1, .int x1), (2, .int x2), (3, .int x3)]) dX10_chance_35 (Nat.le_of_ble_eq_true rfl) rfl ?_
          refine ev_lload 0 dX10_chance_37 rfl ?_
          refine ev_ldc2 2 dX10_chance_39 w_1504 ?_
          refine ev_lcmp dX10_chance_42 ?_
          refine ev_if_ge 49 dX10_chance_43 (by decide) (fun c9 => ?_) (fun c9 => ?_)
          · replace h := h.1 c9
            refine ev_aload_n 1 dX10_chance_49 rfl ?_
            refine ev_bipush (-4) dX10_chance_50 (by decide) ?_
            refine ev_bipush (-4) dX10_chance_52 (by decide) ?_
            refine ev_callV (M' := mX10_besides) [.int (-4), .int (-4)] vX10_besides G10 lay_245 dX10_chance_54 w_1491 rfl rfl (Nat.le_of_ble_eq_true rfl) h ?_
            rintro r9 σ4 ⟨v4, rfl, h⟩
            refine ev_i2l dX10_chance_57 ?_
            refine ev_aload_n 1 dX10_chance_58 rfl ?_
            refine ev_iload_n 2 dX10_chance_59 rfl ?_
            refine ev_callV (M' := mX10_countOf) [.int x1] vX10_countOf G10 lay_245 dX10_chance_60 w_1483 rfl rfl (Nat.le_of_ble_eq_true rfl) h ?_
            rintro r9 σ5 ⟨v5, rfl, h⟩
            refine ev_i2l dX10_chance_63 ?_
            refine ev_lmul dX10_chance_64 ?_
            refine ev_iload_n 2 dX10_chance_65 rfl ?_
            refine ev_iload_n 3 dX10_chance_66 rfl ?_
            refine ev_icmp_ne 80 dX10_chance_67 (by decide) (fun c9 => ?_) (fun c9 => ?_)
            · replace h := h.2 c9
              refine ev_aload_n 1 dX10_chance_80 rfl ?_
              refine ev_iload_n 3 dX10_chance_81 rfl ?_
              refine ev_callV (M' := mX10_countOf) [.int x2] vX10_countOf G10 lay_245 dX10_chance_82 w_1483 rfl rfl (Nat.le_of_ble_eq_true rfl) h ?_
              rintro r9 σ6 ⟨v6, rfl, h⟩
              refine ev_i2l dX10_chance_85 ?_
              refine ev_lmul dX10_chance_86 ?_
              refine ev_lstore (lv' := [(6, .long ((((v4).toInt64) * ((v5).toInt64)) * ((v6).toInt64))), (4, .long ((v3).toInt64)), (0, .ref 245), (1, .int x1), (2, .int x2), (3, .int x3)]) dX10_chance_87 (Nat.le_of_ble_eq_true rfl) rfl ?_
              refine ev_lload 1 dX10_chance_89 rfl ?_
              refine ev_lload 1 dX10_chance_91 rfl ?_
              refine ev_lconst 1 dX10_chance_93 (by decide) ?_
              refine ev_lsub dX10_chance_94 ?_
              refine ev_lmul dX10_chance_95 ?_
              refine ev_lstore (lv' := [(8, .long (((v3).toInt64) * (((v3).toInt64) - 1))), (6, .long ((((v4).toInt64) * ((v5).toInt64)) * ((v6).toInt64))), (4, .long ((v3).toInt64)), (0, .ref 245), (1, .int x1), (2, .int x2), (3, .int x3)]) dX10_chance_96 (Nat.le_of_ble_eq_true rfl) rfl ?_
              refine ev_lload 1 dX10_chance_98 rfl ?_
              refine ev_lstore (lv' := [(10, .long ((((v4).toInt64) * ((v5).toInt64)) * ((v6).toInt64))), (8, .long (((v3).toInt64) * (((v3).toInt64) - 1))), (6, .long ((((v4).toInt64) * ((v5).toInt64)) * ((v6).toInt64))), (4, .long ((v3).toInt64)), (0, .ref 245), (1, .int x1), (2, .int x2), (3, .int x3)]) dX10_chance_100 (Nat.le_of_ble_eq_true rfl) rfl ?_
              refine ev_lload 1 dX10_chance_102 rfl ?_
              refine ev_lstore (lv' := [(12, .long (((v3).toInt64) * (((v3).toInt64) - 1))), (10, .long ((((v4).toInt64) * ((v5).toInt64)) * ((v6).toInt64))), (8, .long (((v3).toInt64) * (((v3).toInt64) - 1))), (6, .long ((((v4).toInt64) * ((v5).toInt64)) * ((v6).toInt64))), (4, .long ((v3).toInt64)), (0, .ref 245), (1, .int x1), (2, .int x2), (3, .int x3)]) dX10_chance_104 (Nat.le_of_ble_eq_true rfl) rfl ?_
              refine ev_sub [8, 3, 2, 1, 0] rfl ?_
              exact h
            · replace h := h.1 c9
              refine ev_aload_n 1 dX10_chance_70 rfl ?_
              refine ev_iload_n 2 dX10_chance_71 rfl ?_
              refine ev_callV (M' := mX10_countOf) [.int x1] vX10_countOf G10 lay_245 dX10_chance_72 w_1483 rfl rfl (Nat.le_of_ble_eq_true rfl) h ?_
              rintro r9 σ7 ⟨v7, rfl, h⟩
              refine ev_iconst 1 dX10_chance_75 (by decide) ?_
              refine ev_isub dX10_chance_76 ?_
              refine ev_goto 85 dX10_chance_77 (by decide) ?_
              refine ev_i2l dX10_chance_85 ?_
              refine ev_lmul dX10_chance_86 ?_
              refine ev_lstore (lv' := [(6, .long ((((v4).toInt64) * ((v5).toInt64)) * ((v7 - 1).toInt64))), (4, .long ((v3).toInt64)), (0, .ref 245), (1, .int x1), (2, .int x2), (3, .int x3)]) dX10_chance_87 (Nat.le_of_ble_eq_true rfl) rfl ?_
              refine ev_lload 1 dX10_chance_89 rfl ?_
              refine ev_lload 1 dX10_chance_91 rfl ?_
              refine ev_lconst 1 dX10_chance_93 (by decide) ?_
              refine ev_lsub dX10_chance_94 ?_
              refine ev_lmul dX10_chance_95 ?_
              refine ev_lstore (lv' := [(8, .long (((v3).toInt64) * (((v3).toInt64) - 1))), (6, .long ((((v4).toInt64) * ((v5).toInt64)) * ((v7 - 1).toInt64))), (4, .long ((v3).toInt64)), (0, .ref 245), (1, .int x1), (2, .int x2), (3, .int x3)]) dX10_chance_96 (Nat.le_of_ble_eq_true rfl) rfl ?_
              refine ev_lload 1 dX10_chance_98 rfl ?_
              refine ev_lstore (lv' := [(10, .long ((((v4).toInt64) * ((v5).toInt64)) * ((v7 - 1).toInt64))), (8, .long (((v3).toInt64) * (((v3).toInt64) - 1))), (6, .long ((((v4).toInt64) * ((v5).toInt64)) * ((v7 - 1).toInt64))), (4, .long ((v3).toInt64)), (0, .ref 245), (1, .int x1), (2, .int x2), (3, .int x3)]) dX10_chance_100 (Nat.le_of_ble_eq_true rfl) rfl ?_
              refine ev_lload 1 dX10_chance_102 rfl ?_
              refine ev_lstore (lv' := [(12, .long (((v3).toInt64) * (((v3).toInt64) - 1))), (10, .long ((((v4).toInt64) * ((v5).toInt64)) * ((v7 - 1).toInt64))), (8, .long (((v3).toInt64) * (((v3).toInt64) - 1))), (6, .long ((((v4).toInt64) * ((v5).toInt64)) * ((v7 - 1).toInt64))), (4, .long ((v3).toInt64)), (0, .ref 245), (1, .int x1), (2, .int x2), (3, .int x3)]) dX10_chance_104 (Nat.le_of_ble_eq_true rfl) rfl ?_
              refine ev_sub [8, 3, 2, 1, 0] rfl ?_
              exact h
          · replace h := h.2 c9
            refine ev_iload_n 4 dX10_chance_46 rfl ?_
            refine ev_i2l dX10_chance_47 ?_
            exact ev_lret rfl dX10_chance_48 h
        · exact absurd c9 (by decide)
      · replace h := h.2 c9
        refine ev_if_ne 30 dX10_chance_23 (by decide) (fun c9 => ?_) (fun c9 => ?_)
        · exact absurd c9 (by decide)
        · refine ev_ldc2 (-1) dX10_chance_26 w_1499 ?_
          exact ev_lret rfl dX10_chance_29 h
theorem BX10_chance_106 {N : Nat} {σ : Sg} {Q : Option Value → Sg → Prop} {x3 : Int32} {y6 : Int64} {y8 : Int64} {y10 : Int64} {y12 : Int64} (h : ((lg_cmp y12 0) = 0 → (x3 = 0 → (¬ y10 = 0) ∧ (Q (some (.long (y6 / y10))) σ)) ∧ (¬ x3 = 0 → (¬ y10 = 0) ∧ (Q (some (.long (y8 / y10))) σ))) ∧ (¬ (lg_cmp y12 0) = 0 → (¬ y12 = 0) ∧ (KX10_chance_106 N σ Q x3 y6 y8 y12 (y10 - y10 / y12 * y12)))) : KX10_chance_106 N σ Q x3 y6 y8 y10 y12 := by
  refine ev_lload 4 dX10_chance_106 rfl ?_
  refine ev_lconst 0 dX10_chance_108 (by decide) ?_
  refine ev_lcmp dX10_chance_109 ?_
  refine ev_if_eq 131 dX10_chance_110 (by decide) (fun c9 => ?_) (fun c9 => ?_)
  · replace h := h.1 c9
    refine ev_iload_n 0 dX10_chance_131 rfl ?_
    refine ev_if_ne 143 dX10_chance_132 (by decide) (fun c9 => ?_) (fun c9 => ?_)
    · replace h := h.2 c9
      refine ev_lload 2 dX10_chance_143 rfl ?_
      refine ev_lload 3 dX10_chance_145 rfl ?_
      have hz := h.1
      replace h := h.2
      refine ev_ldiv dX10_chance_147 hz ?_
      exact ev_lret rfl dX10_chance_148 h
    · replace h := h.1 c9
      refine ev_lload 1 dX10_chance_135 rfl ?_
      refine ev_lload 3 dX10_chance_137 rfl ?_
      have hz := h.1
      replace h := h.2
      refine ev_ldiv dX10_chance_139 hz ?_
      refine ev_goto 148 dX10_chance_140 (by decide) ?_
      exact ev_lret rfl dX10_chance_148 h
  · replace h := h.2 c9
    refine ev_lload 3 dX10_chance_113 rfl ?_
    refine ev_lload 4 dX10_chance_115 rfl ?_
    have hz := h.1
    replace h := h.2
    refine ev_lrem dX10_chance_117 hz ?_
    refine ev_lstore (lv' := [(14, .long (y10 - y10 / y12 * y12)), (3, .int x3), (6, .long y6), (8, .long y8), (10, .long y10), (12, .long y12)]) dX10_chance_118 (Nat.le_of_ble_eq_true rfl) rfl ?_
    refine ev_lload 5 dX10_chance_120 rfl ?_
    refine ev_lstore (lv' := [(10, .long y12), (14, .long (y10 - y10 / y12 * y12)), (3, .int x3), (6, .long y6), (8, .long y8), (12, .long y12)]) dX10_chance_122 (Nat.le_of_ble_eq_true rfl) rfl ?_
    refine ev_lload 1 dX10_chance_124 rfl ?_
    refine ev_lstore (lv' := [(12, .long (y10 - y10 / y12 * y12)), (10, .long y12), (14, .long (y10 - y10 / y12 * y12)), (3, .int x3), (6, .long y6), (8, .long y8)]) dX10_chance_126 (Nat.le_of_ble_eq_true rfl) rfl ?_
    refine ev_goto 106 dX10_chance_128 (by decide) ?_
    refine ev_sub [3, 4, 5, 1, 0] rfl ?_
    exact h
abbrev KX10_edgeSum_6 (N : Nat) (σ : Sg) (Q : Option Value → Sg → Prop) (x1 : Int32) (x2 : Int32) : Prop := Ev (N + 3) mX10_edgeSum 6 [(0, .ref 245), (1, .int x1), (2, .int x2)] [] σ Q
abbrev KX10_edgeSum_27 (N : Nat) (σ : Sg) (Q : Option Value → Sg → Prop) (x1 : Int32) (x2 : Int32) : Prop := Ev (N + 3) mX10_edgeSum 27 [(0, .ref 245), (1, .int x1), (2, .int x2)] [] σ Q
abbrev KX10_edgeSum_84 (N : Nat) (σ : Sg) (Q : Option Value → Sg → Prop) (x2 : Int32) (x3 : Int32) : Prop := Ev (N + 3) mX10_edgeSum 84 [(0, .ref 245), (2, .int x2), (3, .int x3)] [] σ Q
theorem EX10_edgeSum {N : Nat} {σ : Sg} {Q : Option Value → Sg → Prop} {x1 : Int32} (h : EvM (N + 2) mX10_findWords [.ref 245] σ (fun r9 σ1 => r9 = none ∧ (KX10_edgeSum_6 N σ1 Q x1 0))) : EvM (N + 3) mX10_edgeSum [.ref 245, .int x1] σ Q := by
  refine ev_entry rfl (Nat.le_of_ble_eq_true rfl) (lv := [(0, .ref 245), (1, .int x1)]) rfl ?_
  refine ev_aload_n 0 dX10_edgeSum_0 rfl ?_
  refine ev_callV (M' := mX10_findWords) [] vX10_findWords G10 lay_245 dX10_edgeSum_1 w_1467 rfl rfl (Nat.le_of_ble_eq_true rfl) h ?_
  rintro r9 σ1 ⟨rfl, h⟩
  refine ev_iconst 0 dX10_edgeSum_4 (by decide) ?_
  refine ev_istore_n (lv' := [(2, .int 0), (0, .ref 245), (1, .int x1)]) dX10_edgeSum_5 (Nat.le_of_ble_eq_true rfl) rfl ?_
  refine ev_sub [1, 2, 0] rfl ?_
  exact h
theorem BX10_edgeSum_6 {N : Nat} {σ : Sg} {Q : Option Value → Sg → Prop} {x1 : Int32} {x2 : Int32} (h : (24 ≤ x2 → KX10_edgeSum_27 N σ Q x1 0) ∧ (¬ 24 ≤ x2 → vp_in x2 24 ∧ (KX10_edgeSum_6 N (u1 σ 254 (x2).toNatClampNeg 0) Q x1 (x2 + 1)))) : KX10_edgeSum_6 N σ Q x1 x2 := by
  refine ev_iload_n 2 dX10_edgeSum_6 rfl ?_
  refine ev_bipush 24 dX10_edgeSum_7 (by decide) ?_
  refine ev_icmp_ge 25 dX10_edgeSum_9 (by decide) (fun c9 => ?_) (fun c9 => ?_)
  · replace h := h.1 c9
    refine ev_iconst 0 dX10_edgeSum_25 (by decide) ?_
    refine ev_istore_n (lv' := [(2, .int 0), (0, .ref 245), (1, .int x1)]) dX10_edgeSum_26 (Nat.le_of_ble_eq_true rfl) rfl ?_
    refine ev_sub [1, 2, 0] rfl ?_
    exact h
  · replace h := h.2 c9
    refine ev_aload_n 0 dX10_edgeSum_12 rfl ?_
    refine ev_getR (r := 254) G10 lay_245 (k := 12) rfl (Nat.le_of_ble_eq_true rfl) dX10_edgeSum_13 w_1238 ?_
    refine ev_iload_n 2 dX10_edgeSum_16 rfl ?_
    refine ev_iconst 0 dX10_edgeSum_17 (by decide) ?_
    have hb18 := h.1
    replace h := h.2
    refine ev_iast lay_254 (Nat.le_of_ble_eq_true rfl) hb18 dX10_edgeSum_18 ?_
    refine ev_iinc (lv' := [(2, .int (x2 + 1)), (0, .ref 245), (1, .int x1)]) (x2 + 1) 2 dX10_edgeSum_19 rfl rfl (Nat.le_of_ble_eq_true rfl) rfl ?_
    refine ev_goto 6 dX10_edgeSum_22 (by decide) ?_
    refine ev_sub [1, 2, 0] rfl ?_
    exact h
theorem BX10_edgeSum_27 {N : Nat} {σ : Sg} {Q : Option Value → Sg → Prop} {x1 : Int32} {x2 : Int32} (h : ((σ.1 245 7) ≤ x2 → KX10_edgeSum_84 N σ Q 0 0) ∧ (¬ (σ.1 245 7) ≤ x2 → vp_in x2 104 ∧ (((σ.1 253 (x2).toNatClampNeg) = 0 → KX10_edgeSum_27 N σ Q x1 (x2 + 1)) ∧ (¬ (σ.1 253 (x2).toNatClampNeg) = 0 → (x1 = 0 → EvM (N + 2) mX10_wordAt [.ref 245, .int x2, .int 0] σ (fun r9 σ2 => ∃ v2, r9 = some (.int v2) ∧ (vp_in v2 24 ∧ (vp_in v2 24 ∧ (KX10_edgeSum_27 N (u1 σ2 254 (v2).toNatClampNeg ((σ2.1 254 (v2).toNatClampNeg) + 1)) Q x1 (x2 + 1)))))) ∧ (¬ x1 = 0 → vp_in x2 104 ∧ (EvM (N + 2) mX10_wordAt [.ref 245, .int x2, .int ((σ.1 252 (x2).toNatClampNeg) - 1)] σ (fun r9 σ3 => ∃ v3, r9 = some (.int v3) ∧ (vp_in v3 24 ∧ (vp_in v3 24 ∧ (KX10_edgeSum_27 N (u1 σ3 254 (v3).toNatClampNeg ((σ3.1 254 (v3).toNatClampNeg) + 1)) Q x1 (x2 + 1))))))))))) : KX10_edgeSum_27 N σ Q x1 x2 := by
  refine ev_iload_n 2 dX10_edgeSum_27 rfl ?_
  refine ev_aload_n 0 dX10_edgeSum_28 rfl ?_
  refine ev_get G10 lay_245 (k := 7) rfl (Nat.le_of_ble_eq_true rfl) dX10_edgeSum_29 w_1233 ?_
  refine ev_icmp_ge 80 dX10_edgeSum_32 (by decide) (fun c9 => ?_) (fun c9 => ?_)
  · replace h := h.1 c9
    refine ev_iconst 0 dX10_edgeSum_80 (by decide) ?_
    refine ev_istore_n (lv' := [(2, .int 0), (0, .ref 245), (1, .int x1)]) dX10_edgeSum_81 (Nat.le_of_ble_eq_true rfl) rfl ?_
    refine ev_iconst 0 dX10_edgeSum_82 (by decide) ?_
    refine ev_istore_n (lv' := [(3, .int 0), (2, .int 0), (0, .ref 245), (1, .int x1)]) dX10_edgeSum_83 (Nat.le_of_ble_eq_true rfl) rfl ?_
    refine ev_sub [2, 1, 0] rfl ?_
    exact h
  · replace h := h.2 c9
    refine ev_aload_n 0 dX10_edgeSum_35 rfl ?_
    refine ev_getR (r := 253) G10 lay_245 (k := 11) rfl (Nat.le_of_ble_eq_true rfl) dX10_edgeSum_36 w_1237 ?_
    refine ev_iload_n 2 dX10_edgeSum_39 rfl ?_
    have hb40 := h.1
    replace h := h.2
    refine ev_zald lay_253 (Nat.le_of_ble_eq_true rfl) hb40 dX10_edgeSum_40 ?_
    refine ev_if_eq 74 dX10_edgeSum_41 (by decide) (fun c9 => ?_) (fun c9 => ?_)
    · replace h := h.1 c9
      refine ev_iinc (lv' := [(2, .int (x2 + 1)), (0, .ref 245), (1, .int x1)]) (x2 + 1) 2 dX10_edgeSum_74 rfl rfl (Nat.le_of_ble_eq_true rfl) rfl ?_
      refine ev_goto 27 dX10_edgeSum_77 (by decide) ?_
      refine ev_sub [1, 2, 0] rfl ?_
      exact h
    · replace h := h.2 c9
      refine ev_aload_n 0 dX10_edgeSum_44 rfl ?_
      refine ev_getR (r := 254) G10 lay_245 (k := 12) rfl (Nat.le_of_ble_eq_true rfl) dX10_edgeSum_45 w_1238 ?_
      refine ev_aload_n 0 dX10_edgeSum_48 rfl ?_
      refine ev_iload_n 2 dX10_edgeSum_49 rfl ?_
      refine ev_iload_n 1 dX10_edgeSum_50 rfl ?_
      refine ev_if_eq 65 dX10_edgeSum_51 (by decide) (fun c9 => ?_) (fun c9 => ?_)
      · replace h := h.1 c9
        refine ev_iconst 0 dX10_edgeSum_65 (by decide) ?_
        refine ev_callV (M' := mX10_wordAt) [.int x2, .int 0] vX10_wordAt G10 lay_245 dX10_edgeSum_66 w_1513 rfl rfl (Nat.le_of_ble_eq_true rfl) h ?_
        rintro r9 σ2 ⟨v2, rfl, h⟩
        refine ev_dup2 dX10_edgeSum_69 rfl rfl ?_
        have hb70 := h.1
        replace h := h.2
        refine ev_iald lay_254 (Nat.le_of_ble_eq_true rfl) hb70 dX10_edgeSum_70 ?_
        refine ev_iconst 1 dX10_edgeSum_71 (by decide) ?_
        refine ev_iadd dX10_edgeSum_72 ?_
        have hb73 := h.1
        replace h := h.2
        refine ev_iast lay_254 (Nat.le_of_ble_eq_true rfl) hb73 dX10_edgeSum_73 ?_
        refine ev_iinc (lv' := [(2, .int (x2 + 1)), (0, .ref 245), (1, .int x1)]) (x2 + 1) 2 dX10_edgeSum_74 rfl rfl (Nat.le_of_ble_eq_true rfl) rfl ?_
        refine ev_goto 27 dX10_edgeSum_77 (by decide) ?_
        refine ev_sub [1, 2, 0] rfl ?_
        exact h
      · replace h := h.2 c9
        refine ev_aload_n 0 dX10_edgeSum_54 rfl ?_
        refine ev_getR (r := 252) G10 lay_245 (k := 10) rfl (Nat.le_of_ble_eq_true rfl) dX10_edgeSum_55 w_1236 ?_
        refine ev_iload_n 2 dX10_edgeSum_58 rfl ?_
        have hb59 := h.1
        replace h := h.2
        refine ev_iald lay_252 (Nat.le_of_ble_eq_true rfl) hb59 dX10_edgeSum_59 ?_
        refine ev_iconst 1 dX10_edgeSum_60 (by decide) ?_
        refine ev_isub dX10_edgeSum_61 ?_
        refine ev_goto 66 dX10_edgeSum_62 (by decide) ?_
        refine ev_callV (M' := mX10_wordAt) [.int x2, .int ((σ.1 252 (x2).toNatClampNeg) - 1)] vX10_wordAt G10 lay_245 dX10_edgeSum_66 w_1513 rfl rfl (Nat.le_of_ble_eq_true rfl) h ?_
        rintro r9 σ3 ⟨v3, rfl, h⟩
        refine ev_dup2 dX10_edgeSum_69 rfl rfl ?_
        have hb70 := h.1
        replace h := h.2
        refine ev_iald lay_254 (Nat.le_of_ble_eq_true rfl) hb70 dX10_edgeSum_70 ?_
        refine ev_iconst 1 dX10_edgeSum_71 (by decide) ?_
        refine ev_iadd dX10_edgeSum_72 ?_
        have hb73 := h.1
        replace h := h.2
        refine ev_iast lay_254 (Nat.le_of_ble_eq_true rfl) hb73 dX10_edgeSum_73 ?_
        refine ev_iinc (lv' := [(2, .int (x2 + 1)), (0, .ref 245), (1, .int x1)]) (x2 + 1) 2 dX10_edgeSum_74 rfl rfl (Nat.le_of_ble_eq_true rfl) rfl ?_
        refine ev_goto 27 dX10_edgeSum_77 (by decide) ?_
        refine ev_sub [1, 2, 0] rfl ?_
        exact h
theorem BX10_edgeSum_84 {N : Nat} {σ : Sg} {Q : Option Value → Sg → Prop} {x2 : Int32} {x3 : Int32} (h : (24 ≤ x3 → Q (some (.int x2)) σ) ∧ (¬ 24 ≤ x3 → vp_in x3 24 ∧ (vp_in x3 24 ∧ (KX10_edgeSum_84 N σ Q (x2 + ((σ.1 254 (x3).toNatClampNeg) * (σ.1 254 (x3).toNatClampNeg))) (x3 + 1))))) : KX10_edgeSum_84 N σ Q x2 x3 := by
  refine ev_iload_n 2 dX10_edgeSum_84 rfl ?_
  refine ev_bipush 24 dX10_edgeSum_85 (by decide) ?_
  refine ev_icmp_ge 112 dX10_edgeSum_87 (by decide) (fun c9 => ?_) (fun c9 => ?_)
  · replace h := h.1 c9
    refine ev_iload_n 1 dX10_edgeSum_112 rfl ?_
    exact ev_iret rfl dX10_edgeSum_113 h
  · replace h := h.2 c9
    refine ev_iload_n 1 dX10_edgeSum_90 rfl ?_
    refine ev_aload_n 0 dX10_edgeSum_91 rfl ?_
    refine ev_getR (r := 254) G10 lay_245 (k := 12) rfl (Nat.le_of_ble_eq_true rfl) dX10_edgeSum_92 w_1238 ?_
    refine ev_iload_n 2 dX10_edgeSum_95 rfl ?_
    have hb96 := h.1
    replace h := h.2
    refine ev_iald lay_254 (Nat.le_of_ble_eq_true rfl) hb96 dX10_edgeSum_96 ?_
    refine ev_aload_n 0 dX10_edgeSum_97 rfl ?_
    refine ev_getR (r := 254) G10 lay_245 (k := 12) rfl (Nat.le_of_ble_eq_true rfl) dX10_edgeSum_98 w_1238 ?_
    refine ev_iload_n 2 dX10_edgeSum_101 rfl ?_
    have hb102 := h.1
    replace h := h.2
    refine ev_iald lay_254 (Nat.le_of_ble_eq_true rfl) hb102 dX10_edgeSum_102 ?_
    refine ev_imul dX10_edgeSum_103 ?_
    refine ev_iadd dX10_edgeSum_104 ?_
    refine ev_istore_n (lv' := [(2, .int (x2 + ((σ.1 254 (x3).toNatClampNeg) * (σ.1 254 (x3).toNatClampNeg)))), (0, .ref 245), (3, .int x3)]) dX10_edgeSum_105 (Nat.le_of_ble_eq_true rfl) rfl ?_
    refine ev_iinc (lv' := [(3, .int (x3 + 1)), (2, .int (x2 + ((σ.1 254 (x3).toNatClampNeg) * (σ.1 254 (x3).toNatClampNeg)))), (0, .ref 245)]) (x3 + 1) 2 dX10_edgeSum_106 rfl rfl (Nat.le_of_ble_eq_true rfl) rfl ?_
    refine ev_goto 84 dX10_edgeSum_109 (by decide) ?_
    refine ev_sub [2, 1, 0] rfl ?_
    exact h
theorem EX10_runs {N : Nat} {σ : Sg} {Q : Option Value → Sg → Prop} {x1 : Int32} (h : ((0 ≤ ((x1).toInt64).toInt ∧ ((x1).toInt64).toInt ≤ 2) → EvM (N + 3) mX10_edgeSum [.ref 245, .int 0] σ (fun r9 σ1 => ∃ v1, r9 = some (.int v1) ∧ (EvM (N + 3) mX10_edgeSum [.ref 245, .int 1] σ1 (fun r9 σ2 => ∃ v2, r9 = some (.int v2) ∧ ((x1 = 1 → Q (some (.int v1)) σ2) ∧ (¬ x1 = 1 → (x1 = 2 → Q (some (.int v2)) σ2) ∧ (¬ x1 = 2 → (v2 ≤ v1 → (v1 ≤ v2 → Q (some (.int 0)) σ2) ∧ (¬ v1 ≤ v2 → Q (some (.int (-1))) σ2)) ∧ (¬ v2 ≤ v1 → Q (some (.int 1)) σ2)))))))) ∧ (¬ (0 ≤ ((x1).toInt64).toInt ∧ ((x1).toInt64).toInt ≤ 2) → Q (some (.int (-10))) σ)) : EvM (N + 4) mX10_runs [.ref 245, .int x1] σ Q := by
  refine ev_entry rfl (Nat.le_of_ble_eq_true rfl) (lv := [(0, .ref 245), (1, .int x1)]) rfl ?_
  refine ev_iload_n 1 dX10_runs_0 rfl ?_
  refine ev_i2l dX10_runs_1 ?_
  refine ev_lconst 0 dX10_runs_2 (by decide) ?_
  refine ev_ldc2 2 dX10_runs_3 w_1504 ?_
  refine ev_callS (M' := mX10_in) [.long ((x1).toInt64), .long 0, .long 2] vX10_in dX10_runs_6 w_1421 rfl rfl (Nat.le_of_ble_eq_true rfl) (C10_in (P := 0 ≤ ((x1).toInt64).toInt ∧ ((x1).toInt64).toInt ≤ 2) (by (try simp only [i_l]); exact Iff.rfl) (Q := fun r9 s9 => σ = s9 ∧ ((r9 = some (.int 1) ∧ (0 ≤ ((x1).toInt64).toInt ∧ ((x1).toInt64).toInt ≤ 2)) ∨ (r9 = some (.int 0) ∧ ¬ (0 ≤ ((x1).toInt64).toInt ∧ ((x1).toInt64).toInt ≤ 2)))) ⟨fun c9 => ⟨rfl, Or.inl ⟨rfl, c9⟩⟩, fun c9 => ⟨rfl, Or.inr ⟨rfl, c9⟩⟩⟩) ?_
  rintro r9 s9 ⟨rfl, ⟨rfl, c9⟩ | ⟨rfl, c9⟩⟩
  · replace h := h.1 c9
    refine ev_if_ne 15 dX10_runs_9 (by decide) (fun c9 => ?_) (fun c9 => ?_)
    · refine ev_aload_n 0 dX10_runs_15 rfl ?_
      refine ev_iconst 0 dX10_runs_16 (by decide) ?_
      refine ev_callV (M' := mX10_edgeSum) [.int 0] vX10_edgeSum G10 lay_245 dX10_runs_17 w_1509 rfl rfl (Nat.le_of_ble_eq_true rfl) h ?_
      rintro r9 σ1 ⟨v1, rfl, h⟩
      refine ev_istore_n (lv' := [(2, .int v1), (0, .ref 245), (1, .int x1)]) dX10_runs_20 (Nat.le_of_ble_eq_true rfl) rfl ?_
      refine ev_aload_n 1 dX10_runs_21 rfl ?_
      refine ev_iconst 1 dX10_runs_22 (by decide) ?_
      refine ev_callV (M' := mX10_edgeSum) [.int 1] vX10_edgeSum G10 lay_245 dX10_runs_23 w_1509 rfl rfl (Nat.le_of_ble_eq_true rfl) h ?_
      rintro r9 σ2 ⟨v2, rfl, h⟩
      refine ev_istore_n (lv' := [(3, .int v2), (2, .int v1), (0, .ref 245), (1, .int x1)]) dX10_runs_26 (Nat.le_of_ble_eq_true rfl) rfl ?_
      refine ev_iload_n 3 dX10_runs_27 rfl ?_
      refine ev_iconst 1 dX10_runs_28 (by decide) ?_
      refine ev_icmp_ne 36 dX10_runs_29 (by decide) (fun c9 => ?_) (fun c9 => ?_)
      · replace h := h.2 c9
        refine ev_iload_n 3 dX10_runs_36 rfl ?_
        refine ev_iconst 2 dX10_runs_37 (by decide) ?_
        refine ev_icmp_ne 45 dX10_runs_38 (by decide) (fun c9 => ?_) (fun c9 => ?_)
        · replace h := h.2 c9
          refine ev_iload_n 0 dX10_runs_45 rfl ?_
          refine ev_iload_n 1 dX10_runs_46 rfl ?_
          refine ev_icmp_le 54 dX10_runs_47 (by decide) (fun c9 => ?_) (fun c9 => ?_)
          · replace h := h.1 c9
            refine ev_iload_n 0 dX10_runs_54 rfl ?_
            refine ev_iload_n 1 dX10_runs_55 rfl ?_
            refine ev_icmp_ge 63 dX10_runs_56 (by decide) (fun c9 => ?_) (fun c9 => ?_)
            · replace h := h.1 c9
              refine ev_iconst 0 dX10_runs_63 (by decide) ?_
              exact ev_iret rfl dX10_runs_64 h
            · replace h := h.2 c9
              refine ev_iconst (-1) dX10_runs_59 (by decide) ?_
              refine ev_goto 64 dX10_runs_60 (by decide) ?_
              exact ev_iret rfl dX10_runs_64 h
          · replace h := h.2 c9
            refine ev_iconst 1 dX10_runs_50 (by decide) ?_
            refine ev_goto 64 dX10_runs_51 (by decide) ?_
            exact ev_iret rfl dX10_runs_64 h
        · replace h := h.1 c9
          refine ev_iload_n 0 dX10_runs_41 rfl ?_
          refine ev_goto 64 dX10_runs_42 (by decide) ?_
          exact ev_iret rfl dX10_runs_64 h
      · replace h := h.1 c9
        refine ev_iload_n 1 dX10_runs_32 rfl ?_
        refine ev_goto 64 dX10_runs_33 (by decide) ?_
        exact ev_iret rfl dX10_runs_64 h
    · exact absurd c9 (by decide)
  · replace h := h.2 c9
    refine ev_if_ne 15 dX10_runs_9 (by decide) (fun c9 => ?_) (fun c9 => ?_)
    · exact absurd c9 (by decide)
    · refine ev_bipush (-10) dX10_runs_12 (by decide) ?_
      exact ev_iret rfl dX10_runs_14 h
abbrev KX10_alikeTo_2 (N : Nat) (σ : Sg) (Q : Option Value → Sg → Prop) (x1 : Int32) (x2 : Int32) (x3 : Int32) : Prop := Ev (N + 2) mX10_alikeTo 2 [(0, .ref 245), (1, .int x1), (2, .int x2), (3, .int x3)] [] σ Q
theorem EX10_alikeTo {N : Nat} {σ : Sg} {Q : Option Value → Sg → Prop} {x1 : Int32} {x2 : Int32} (h : KX10_alikeTo_2 N σ Q x1 x2 0) : EvM (N + 2) mX10_alikeTo [.ref 245, .int x1, .int x2] σ Q := by
  refine ev_entry rfl (Nat.le_of_ble_eq_true rfl) (lv := [(0, .ref 245), (1, .int x1), (2, .int x2)]) rfl ?_
  refine ev_iconst 0 dX10_alikeTo_0 (by decide) ?_
  refine ev_istore_n (lv' := [(3, .int 0), (0, .ref 245), (1, .int x1), (2, .int x2)]) dX10_alikeTo_1 (Nat.le_of_ble_eq_true rfl) rfl ?_
  refine ev_sub [1, 2, 3, 0] rfl ?_
  exact h
theorem BX10_alikeTo_2 {N : Nat} {σ : Sg} {Q : Option Value → Sg → Prop} {x1 : Int32} {x2 : Int32} {x3 : Int32} (h : vp_in x1 104 ∧ (((σ.1 252 (x1).toNatClampNeg) ≤ x3 → Q (some (.int x3)) σ) ∧ (¬ (σ.1 252 (x1).toNatClampNeg) ≤ x3 → EvM (N + 1) mX10_wordAt [.ref 245, .int x1, .int x3] σ (fun r9 σ1 => ∃ v1, r9 = some (.int v1) ∧ (EvM (N + 1) mX10_wordAt [.ref 245, .int x2, .int x3] σ1 (fun r9 σ2 => ∃ v2, r9 = some (.int v2) ∧ ((v1 = v2 → KX10_alikeTo_2 N σ2 Q x1 x2 (x3 + 1)) ∧ (¬ v1 = v2 → Q (some (.int x3)) σ2)))))))) : KX10_alikeTo_2 N σ Q x1 x2 x3 := by
  refine ev_iload_n 3 dX10_alikeTo_2 rfl ?_
  refine ev_aload_n 0 dX10_alikeTo_3 rfl ?_
  refine ev_getR (r := 252) G10 lay_245 (k := 10) rfl (Nat.le_of_ble_eq_true rfl) dX10_alikeTo_4 w_1236 ?_
  refine ev_iload_n 1 dX10_alikeTo_7 rfl ?_
  have hb8 := h.1
  replace h := h.2
  refine ev_iald lay_252 (Nat.le_of_ble_eq_true rfl) hb8 dX10_alikeTo_8 ?_
  refine ev_icmp_ge 33 dX10_alikeTo_9 (by decide) (fun c9 => ?_) (fun c9 => ?_)
  · replace h := h.1 c9
    refine ev_iload_n 3 dX10_alikeTo_33 rfl ?_
    exact ev_iret rfl dX10_alikeTo_34 h
  · replace h := h.2 c9
    refine ev_aload_n 0 dX10_alikeTo_12 rfl ?_
    refine ev_iload_n 1 dX10_alikeTo_13 rfl ?_
    refine ev_iload_n 3 dX10_alikeTo_14 rfl ?_
    refine ev_callV (M' := mX10_wordAt) [.int x1, .int x3] vX10_wordAt G10 lay_245 dX10_alikeTo_15 w_1513 rfl rfl (Nat.le_of_ble_eq_true rfl) h ?_
    rintro r9 σ1 ⟨v1, rfl, h⟩
    refine ev_aload_n 0 dX10_alikeTo_18 rfl ?_
    refine ev_iload_n 2 dX10_alikeTo_19 rfl ?_
    refine ev_iload_n 3 dX10_alikeTo_20 rfl ?_
    refine ev_callV (M' := mX10_wordAt) [.int x2, .int x3] vX10_wordAt G10 lay_245 dX10_alikeTo_21 w_1513 rfl rfl (Nat.le_of_ble_eq_true rfl) h ?_
    rintro r9 σ2 ⟨v2, rfl, h⟩
    refine ev_icmp_ne 33 dX10_alikeTo_24 (by decide) (fun c9 => ?_) (fun c9 => ?_)
    · replace h := h.2 c9
      refine ev_iload_n 3 dX10_alikeTo_33 rfl ?_
      exact ev_iret rfl dX10_alikeTo_34 h
    · replace h := h.1 c9
      refine ev_iinc (lv' := [(3, .int (x3 + 1)), (0, .ref 245), (1, .int x1), (2, .int x2)]) (x3 + 1) 3 dX10_alikeTo_27 rfl rfl (Nat.le_of_ble_eq_true rfl) rfl ?_
      refine ev_goto 2 dX10_alikeTo_30 (by decide) ?_
      refine ev_sub [1, 2, 3, 0] rfl ?_
      exact h
abbrev KX10_isFirstOfItsRow_4 (N : Nat) (σ : Sg) (Q : Option Value → Sg → Prop) (x1 : Int32) (x2 : Int32) (x3 : Int32) : Prop := Ev (N + 3) mX10_isFirstOfItsRow 4 [(0, .ref 245), (1, .int x1), (2, .int x2), (3, .int x3)] [] σ Q
theorem EX10_isFirstOfItsRow {N : Nat} {σ : Sg} {Q : Option Value → Sg → Prop} {x1 : Int32} (h : KX10_isFirstOfItsRow_4 N σ Q x1 1 0) : EvM (N + 3) mX10_isFirstOfItsRow [.ref 245, .int x1] σ Q := by
  refine ev_entry rfl (Nat.le_of_ble_eq_true rfl) (lv := [(0, .ref 245), (1, .int x1)]) rfl ?_
  refine ev_iconst 1 dX10_isFirstOfItsRow_0 (by decide) ?_
  refine ev_istore_n (lv' := [(2, .int 1), (0, .ref 245), (1, .int x1)]) dX10_isFirstOfItsRow_1 (Nat.le_of_ble_eq_true rfl) rfl ?_
  refine ev_iconst 0 dX10_isFirstOfItsRow_2 (by decide) ?_
  refine ev_istore_n (lv' := [(3, .int 0), (2, .int 1), (0, .ref 245), (1, .int x1)]) dX10_isFirstOfItsRow_3 (Nat.le_of_ble_eq_true rfl) rfl ?_
  refine ev_sub [2, 3, 1, 0] rfl ?_
  exact h
theorem BX10_isFirstOfItsRow_4 {N : Nat} {σ : Sg} {Q : Option Value → Sg → Prop} {x1 : Int32} {x2 : Int32} {x3 : Int32} (h : (x1 ≤ x3 → narrow .boolean (.int x2) = .int x2 ∧ Q (some (.int x2)) σ) ∧ (¬ x1 ≤ x3 → (x2 = 0 → narrow .boolean (.int x2) = .int x2 ∧ Q (some (.int x2)) σ) ∧ (¬ x2 = 0 → vp_in x3 104 ∧ (((σ.1 253 (x3).toNatClampNeg) = 0 → KX10_isFirstOfItsRow_4 N σ Q x1 1 (x3 + 1)) ∧ (¬ (σ.1 253 (x3).toNatClampNeg) = 0 → vp_in x3 104 ∧ (vp_in x1 104 ∧ (((σ.1 252 (x3).toNatClampNeg) = (σ.1 252 (x1).toNatClampNeg) → EvM (N + 2) mX10_alikeTo [.ref 245, .int x1, .int x3] σ (fun r9 σ1 => ∃ v1, r9 = some (.int v1) ∧ (vp_in x1 104 ∧ (((σ1.1 252 (x1).toNatClampNeg) ≤ v1 → KX10_isFirstOfItsRow_4 N σ1 Q x1 0 (x3 + 1)) ∧ (¬ (σ1.1 252 (x1).toNatClampNeg) ≤ v1 → KX10_isFirstOfItsRow_4 N σ1 Q x1 1 (x3 + 1)))))) ∧ (¬ (σ.1 252 (x3).toNatClampNeg) = (σ.1 252 (x1).toNatClampNeg) → KX10_isFirstOfItsRow_4 N σ Q x1 1 (x3 + 1))))))))) : KX10_isFirstOfItsRow_4 N σ Q x1 x2 x3 := by
  refine ev_iload_n 3 dX10_isFirstOfItsRow_4 rfl ?_
  refine ev_iload_n 1 dX10_isFirstOfItsRow_5 rfl ?_
  refine ev_icmp_ge 64 dX10_isFirstOfItsRow_6 (by decide) (fun c9 => ?_) (fun c9 => ?_)
  · replace h := h.1 c9
    refine ev_iload_n 2 dX10_isFirstOfItsRow_64 rfl ?_
    exact ev_zret (ty := .boolean) rfl (by exact h.1) dX10_isFirstOfItsRow_65 h.2
  · replace h := h.2 c9
    refine ev_iload_n 2 dX10_isFirstOfItsRow_9 rfl ?_
    refine ev_if_eq 64 dX10_isFirstOfItsRow_10 (by decide) (fun c9 => ?_) (fun c9 => ?_)
    · replace h := h.1 c9
      refine ev_iload_n 2 dX10_isFirstOfItsRow_64 rfl ?_
      exact ev_zret (ty := .boolean) rfl (by exact h.1) dX10_isFirstOfItsRow_65 h.2
    · replace h := h.2 c9
      refine ev_aload_n 0 dX10_isFirstOfItsRow_13 rfl ?_
      refine ev_getR (r := 253) G10 lay_245 (k := 11) rfl (Nat.le_of_ble_eq_true rfl) dX10_isFirstOfItsRow_14 w_1237 ?_
      refine ev_iload_n 3 dX10_isFirstOfItsRow_17 rfl ?_
      have hb18 := h.1
      replace h := h.2
      refine ev_zald lay_253 (Nat.le_of_ble_eq_true rfl) hb18 dX10_isFirstOfItsRow_18 ?_
      refine ev_if_eq 52 dX10_isFirstOfItsRow_19 (by decide) (fun c9 => ?_) (fun c9 => ?_)
      · replace h := h.1 c9
        refine ev_iconst 1 dX10_isFirstOfItsRow_52 (by decide) ?_
        refine ev_goto 57 dX10_isFirstOfItsRow_53 (by decide) ?_
        refine ev_istore_n (lv' := [(2, .int 1), (0, .ref 245), (1, .int x1), (3, .int x3)]) dX10_isFirstOfItsRow_57 (Nat.le_of_ble_eq_true rfl) rfl ?_
        refine ev_iinc (lv' := [(3, .int (x3 + 1)), (2, .int 1), (0, .ref 245), (1, .int x1)]) (x3 + 1) 3 dX10_isFirstOfItsRow_58 rfl rfl (Nat.le_of_ble_eq_true rfl) rfl ?_
        refine ev_goto 4 dX10_isFirstOfItsRow_61 (by decide) ?_
        refine ev_sub [2, 3, 1, 0] rfl ?_
        exact h
      · replace h := h.2 c9
        refine ev_aload_n 0 dX10_isFirstOfItsRow_22 rfl ?_
        refine ev_getR (r := 252) G10 lay_245 (k := 10) rfl (Nat.le_of_ble_eq_true rfl) dX10_isFirstOfItsRow_23 w_1236 ?_
        refine ev_iload_n 3 dX10_isFirstOfItsRow_26 rfl ?_
        have hb27 := h.1
        replace h := h.2
        refine ev_iald lay_252 (Nat.le_of_ble_eq_true rfl) hb27 dX10_isFirstOfItsRow_27 ?_
        refine ev_aload_n 0 dX10_isFirstOfItsRow_28 rfl ?_
        refine ev_getR (r := 252) G10 lay_245 (k := 10) rfl (Nat.le_of_ble_eq_true rfl) dX10_isFirstOfItsRow_29 w_1236 ?_
        refine ev_iload_n 1 dX10_isFirstOfItsRow_32 rfl ?_
        have hb33 := h.1
        replace h := h.2
        refine ev_iald lay_252 (Nat.le_of_ble_eq_true rfl) hb33 dX10_isFirstOfItsRow_33 ?_
        refine ev_icmp_ne 52 dX10_isFirstOfItsRow_34 (by decide) (fun c9 => ?_) (fun c9 => ?_)
        · replace h := h.2 c9
          refine ev_iconst 1 dX10_isFirstOfItsRow_52 (by decide) ?_
          refine ev_goto 57 dX10_isFirstOfItsRow_53 (by decide) ?_
          refine ev_istore_n (lv' := [(2, .int 1), (0, .ref 245), (1, .int x1), (3, .int x3)]) dX10_isFirstOfItsRow_57 (Nat.le_of_ble_eq_true rfl) rfl ?_
          refine ev_iinc (lv' := [(3, .int (x3 + 1)), (2, .int 1), (0, .ref 245), (1, .int x1)]) (x3 + 1) 3 dX10_isFirstOfItsRow_58 rfl rfl (Nat.le_of_ble_eq_true rfl) rfl ?_
          refine ev_goto 4 dX10_isFirstOfItsRow_61 (by decide) ?_
          refine ev_sub [2, 3, 1, 0] rfl ?_
          exact h
        · replace h := h.1 c9
          refine ev_aload_n 0 dX10_isFirstOfItsRow_37 rfl ?_
          refine ev_iload_n 1 dX10_isFirstOfItsRow_38 rfl ?_
          refine ev_iload_n 3 dX10_isFirstOfItsRow_39 rfl ?_
          refine ev_callV (M' := mX10_alikeTo) [.int x1, .int x3] vX10_alikeTo G10 lay_245 dX10_isFirstOfItsRow_40 w_1525 rfl rfl (Nat.le_of_ble_eq_true rfl) h ?_
          rintro r9 σ1 ⟨v1, rfl, h⟩
          refine ev_aload_n 0 dX10_isFirstOfItsRow_43 rfl ?_
          refine ev_getR (r := 252) G10 lay_245 (k := 10) rfl (Nat.le_of_ble_eq_true rfl) dX10_isFirstOfItsRow_44 w_1236 ?_
          refine ev_iload_n 1 dX10_isFirstOfItsRow_47 rfl ?_
          have hb48 := h.1
          replace h := h.2
          refine ev_iald lay_252 (Nat.le_of_ble_eq_true rfl) hb48 dX10_isFirstOfItsRow_48 ?_
          refine ev_icmp_ge 56 dX10_isFirstOfItsRow_49 (by decide) (fun c9 => ?_) (fun c9 => ?_)
          · replace h := h.1 c9
            refine ev_iconst 0 dX10_isFirstOfItsRow_56 (by decide) ?_
            refine ev_istore_n (lv' := [(2, .int 0), (0, .ref 245), (1, .int x1), (3, .int x3)]) dX10_isFirstOfItsRow_57 (Nat.le_of_ble_eq_true rfl) rfl ?_
            refine ev_iinc (lv' := [(3, .int (x3 + 1)), (2, .int 0), (0, .ref 245), (1, .int x1)]) (x3 + 1) 3 dX10_isFirstOfItsRow_58 rfl rfl (Nat.le_of_ble_eq_true rfl) rfl ?_
            refine ev_goto 4 dX10_isFirstOfItsRow_61 (by decide) ?_
            refine ev_sub [2, 3, 1, 0] rfl ?_
            exact h
          · replace h := h.2 c9
            refine ev_iconst 1 dX10_isFirstOfItsRow_52 (by decide) ?_
            refine ev_goto 57 dX10_isFirstOfItsRow_53 (by decide) ?_
            refine ev_istore_n (lv' := [(2, .int 1), (0, .ref 245), (1, .int x1), (3, .int x3)]) dX10_isFirstOfItsRow_57 (Nat.le_of_ble_eq_true rfl) rfl ?_
            refine ev_iinc (lv' := [(3, .int (x3 + 1)), (2, .int 1), (0, .ref 245), (1, .int x1)]) (x3 + 1) 3 dX10_isFirstOfItsRow_58 rfl rfl (Nat.le_of_ble_eq_true rfl) rfl ?_
            refine ev_goto 4 dX10_isFirstOfItsRow_61 (by decide) ?_
            refine ev_sub [2, 3, 1, 0] rfl ?_
            exact h
abbrev KX10_findAkins_6 (N : Nat) (σ : Sg) (Q : Option Value → Sg → Prop) (x1 : Int32) : Prop := Ev (N + 4) mX10_findAkins 6 [(0, .ref 245), (1, .int x1)] [] σ Q
abbrev KX10_findAkins_28 (N : Nat) (σ : Sg) (Q : Option Value → Sg → Prop) (x1 : Int32) : Prop := Ev (N + 4) mX10_findAkins 28 [(0, .ref 245), (1, .int x1)] [] σ Q
abbrev KX10_findAkins_38 (N : Nat) (σ : Sg) (Q : Option Value → Sg → Prop) (x1 : Int32) (x2 : Int32) : Prop := Ev (N + 4) mX10_findAkins 38 [(0, .ref 245), (1, .int x1), (2, .int x2)] [] σ Q
theorem EX10_findAkins {N : Nat} {σ : Sg} {Q : Option Value → Sg → Prop} (h : EvM (N + 3) mX10_findWords [.ref 245] σ (fun r9 σ1 => r9 = none ∧ (KX10_findAkins_6 N σ1 Q 0))) : EvM (N + 4) mX10_findAkins [.ref 245] σ Q := by
  refine ev_entry rfl (Nat.le_of_ble_eq_true rfl) (lv := [(0, .ref 245)]) rfl ?_
  refine ev_aload_n 0 dX10_findAkins_0 rfl ?_
  refine ev_callV (M' := mX10_findWords) [] vX10_findWords G10 lay_245 dX10_findAkins_1 w_1467 rfl rfl (Nat.le_of_ble_eq_true rfl) h ?_
  rintro r9 σ1 ⟨rfl, h⟩
  refine ev_iconst 0 dX10_findAkins_4 (by decide) ?_
  refine ev_istore_n (lv' := [(1, .int 0), (0, .ref 245)]) dX10_findAkins_5 (Nat.le_of_ble_eq_true rfl) rfl ?_
  refine ev_sub [1, 0] rfl ?_
  exact h
theorem BX10_findAkins_6 {N : Nat} {σ : Sg} {Q : Option Value → Sg → Prop} {x1 : Int32} (h : (576 ≤ x1 → KX10_findAkins_28 N σ Q 0) ∧ (¬ 576 ≤ x1 → vp_in x1 576 ∧ (KX10_findAkins_6 N (u1 σ 256 (x1).toNatClampNeg 0) Q (x1 + 1)))) : KX10_findAkins_6 N σ Q x1 := by
  refine ev_iload_n 1 dX10_findAkins_6 rfl ?_
  refine ev_sipush 576 dX10_findAkins_7 (by decide) ?_
  refine ev_icmp_ge 26 dX10_findAkins_10 (by decide) (fun c9 => ?_) (fun c9 => ?_)
  · replace h := h.1 c9
    refine ev_iconst 0 dX10_findAkins_26 (by decide) ?_
    refine ev_istore_n (lv' := [(1, .int 0), (0, .ref 245)]) dX10_findAkins_27 (Nat.le_of_ble_eq_true rfl) rfl ?_
    refine ev_sub [1, 0] rfl ?_
    exact h
  · replace h := h.2 c9
    refine ev_aload_n 0 dX10_findAkins_13 rfl ?_
    refine ev_getR (r := 256) G10 lay_245 (k := 14) rfl (Nat.le_of_ble_eq_true rfl) dX10_findAkins_14 w_1240 ?_
    refine ev_iload_n 1 dX10_findAkins_17 rfl ?_
    refine ev_iconst 0 dX10_findAkins_18 (by decide) ?_
    have hb19 := h.1
    replace h := h.2
    refine ev_iast lay_256 (Nat.le_of_ble_eq_true rfl) hb19 dX10_findAkins_19 ?_
    refine ev_iinc (lv' := [(1, .int (x1 + 1)), (0, .ref 245)]) (x1 + 1) 1 dX10_findAkins_20 rfl rfl (Nat.le_of_ble_eq_true rfl) rfl ?_
    refine ev_goto 6 dX10_findAkins_23 (by decide) ?_
    refine ev_sub [1, 0] rfl ?_
    exact h
theorem BX10_findAkins_28 {N : Nat} {σ : Sg} {Q : Option Value → Sg → Prop} {x1 : Int32} (h : ((σ.1 245 7) ≤ x1 → Q none σ) ∧ (¬ (σ.1 245 7) ≤ x1 → KX10_findAkins_38 N σ Q x1 0)) : KX10_findAkins_28 N σ Q x1 := by
  refine ev_iload_n 1 dX10_findAkins_28 rfl ?_
  refine ev_aload_n 0 dX10_findAkins_29 rfl ?_
  refine ev_get G10 lay_245 (k := 7) rfl (Nat.le_of_ble_eq_true rfl) dX10_findAkins_30 w_1233 ?_
  refine ev_icmp_ge 177 dX10_findAkins_33 (by decide) (fun c9 => ?_) (fun c9 => ?_)
  · replace h := h.1 c9
    exact ev_vret rfl dX10_findAkins_177 h
  · replace h := h.2 c9
    refine ev_iconst 0 dX10_findAkins_36 (by decide) ?_
    refine ev_istore_n (lv' := [(2, .int 0), (0, .ref 245), (1, .int x1)]) dX10_findAkins_37 (Nat.le_of_ble_eq_true rfl) rfl ?_
    refine ev_sub [1, 2, 0] rfl ?_
    exact h
theorem BX10_findAkins_38 {N : Nat} {σ : Sg} {Q : Option Value → Sg → Prop} {x1 : Int32} {x2 : Int32} (h : (x1 ≤ x2 → KX10_findAkins_28 N σ Q (x1 + 1)) ∧ (¬ x1 ≤ x2 → vp_in x1 104 ∧ (vp_in x1 104 ∧ (((σ.1 253 (x1).toNatClampNeg) = 0 → KX10_findAkins_38 N σ Q x1 (x2 + 1)) ∧ (¬ (σ.1 253 (x1).toNatClampNeg) = 0 → vp_in x2 104 ∧ (((σ.1 253 (x2).toNatClampNeg) = 0 → KX10_findAkins_38 N σ Q x1 (x2 + 1)) ∧ (¬ (σ.1 253 (x2).toNatClampNeg) = 0 → vp_in x2 104 ∧ (((σ.1 252 (x2).toNatClampNeg) = (σ.1 252 (x1).toNatClampNeg) → ((σ.1 252 (x1).toNatClampNeg) ≤ 1 → KX10_findAkins_38 N σ Q x1 (x2 + 1)) ∧ (¬ (σ.1 252 (x1).toNatClampNeg) ≤ 1 → EvM (N + 3) mX10_alikeTo [.ref 245, .int x1, .int x2] σ (fun r9 σ2 => ∃ v2, r9 = some (.int v2) ∧ ((v2 = ((σ.1 252 (x1).toNatClampNeg) - 1) → EvM (N + 3) mX10_isFirstOfItsRow [.ref 245, .int x1] σ2 (fun r9 σ3 => ∃ v3, r9 = some (.int v3) ∧ ((v3 = 0 → KX10_findAkins_38 N σ3 Q x1 (x2 + 1)) ∧ (¬ v3 = 0 → EvM (N + 3) mX10_isFirstOfItsRow [.ref 245, .int x2] σ3 (fun r9 σ4 => ∃ v4, r9 = some (.int v4) ∧ ((v4 = 0 → KX10_findAkins_38 N σ4 Q x1 (x2 + 1)) ∧ (¬ v4 = 0 → EvM (N + 3) mX10_wordAt [.ref 245, .int x1, .int ((σ.1 252 (x1).toNatClampNeg) - 1)] σ4 (fun r9 σ5 => ∃ v5, r9 = some (.int v5) ∧ (EvM (N + 3) mX10_wordAt [.ref 245, .int x2, .int ((σ.1 252 (x1).toNatClampNeg) - 1)] σ5 (fun r9 σ6 => ∃ v6, r9 = some (.int v6) ∧ (vp_in ((24 * v5) + v6) 576 ∧ (vp_in ((24 * v5) + v6) 576 ∧ (vp_in ((24 * v6) + v5) 576 ∧ (vp_in ((24 * v6) + v5) 576 ∧ (KX10_findAkins_38 N (u1 (u1 σ6 256 ((24 * v5) + v6).toNatClampNeg ((σ6.1 256 ((24 * v5) + v6).toNatClampNeg) + 1)) 256 ((24 * v6) + v5).toNatClampNeg (((u1 σ6 256 ((24 * v5) + v6).toNatClampNeg ((σ6.1 256 ((24 * v5) + v6).toNatClampNeg) + 1)).1 256 ((24 * v6) + v5).toNatClampNeg) + 1)) Q x1 (x2 + 1)))))))))))))))) ∧ (¬ v2 = ((σ.1 252 (x1).toNatClampNeg) - 1) → KX10_findAkins_38 N σ2 Q x1 (x2 + 1)))))) ∧ (¬ (σ.1 252 (x2).toNatClampNeg) = (σ.1 252 (x1).toNatClampNeg) → KX10_findAkins_38 N σ Q x1 (x2 + 1)))))))))) : KX10_findAkins_38 N σ Q x1 x2 := by
  refine ev_iload_n 2 dX10_findAkins_38 rfl ?_
  refine ev_iload_n 1 dX10_findAkins_39 rfl ?_
  refine ev_icmp_ge 171 dX10_findAkins_40 (by decide) (fun c9 => ?_) (fun c9 => ?_)
  · replace h := h.1 c9
    refine ev_iinc (lv' := [(1, .int (x1 + 1)), (0, .ref 245), (2, .int x2)]) (x1 + 1) 1 dX10_findAkins_171 rfl rfl (Nat.le_of_ble_eq_true rfl) rfl ?_
    refine ev_goto 28 dX10_findAkins_174 (by decide) ?_
    refine ev_sub [1, 0] rfl ?_
    exact h
  · replace h := h.2 c9
    refine ev_aload_n 0 dX10_findAkins_43 rfl ?_
    refine ev_getR (r := 252) G10 lay_245 (k := 10) rfl (Nat.le_of_ble_eq_true rfl) dX10_findAkins_44 w_1236 ?_
    refine ev_iload_n 1 dX10_findAkins_47 rfl ?_
    have hb48 := h.1
    replace h := h.2
    refine ev_iald lay_252 (Nat.le_of_ble_eq_true rfl) hb48 dX10_findAkins_48 ?_
    refine ev_istore_n (lv' := [(3, .int (σ.1 252 (x1).toNatClampNeg)), (0, .ref 245), (1, .int x1), (2, .int x2)]) dX10_findAkins_49 (Nat.le_of_ble_eq_true rfl) rfl ?_
    refine ev_aload_n 1 dX10_findAkins_50 rfl ?_
    refine ev_getR (r := 253) G10 lay_245 (k := 11) rfl (Nat.le_of_ble_eq_true rfl) dX10_findAkins_51 w_1237 ?_
    refine ev_iload_n 2 dX10_findAkins_54 rfl ?_
    have hb55 := h.1
    replace h := h.2
    refine ev_zald lay_253 (Nat.le_of_ble_eq_true rfl) hb55 dX10_findAkins_55 ?_
    refine ev_if_eq 165 dX10_findAkins_56 (by decide) (fun c9 => ?_) (fun c9 => ?_)
    · replace h := h.1 c9
      refine ev_iinc (lv' := [(2, .int (x2 + 1)), (3, .int (σ.1 252 (x1).toNatClampNeg)), (0, .ref 245), (1, .int x1)]) (x2 + 1) 3 dX10_findAkins_165 rfl rfl (Nat.le_of_ble_eq_true rfl) rfl ?_
      refine ev_goto 38 dX10_findAkins_168 (by decide) ?_
      refine ev_sub [2, 3, 0] rfl ?_
      exact h
    · replace h := h.2 c9
      refine ev_aload_n 1 dX10_findAkins_59 rfl ?_
      refine ev_getR (r := 253) G10 lay_245 (k := 11) rfl (Nat.le_of_ble_eq_true rfl) dX10_findAkins_60 w_1237 ?_
      refine ev_iload_n 3 dX10_findAkins_63 rfl ?_
      have hb64 := h.1
      replace h := h.2
      refine ev_zald lay_253 (Nat.le_of_ble_eq_true rfl) hb64 dX10_findAkins_64 ?_
      refine ev_if_eq 165 dX10_findAkins_65 (by decide) (fun c9 => ?_) (fun c9 => ?_)
      · replace h := h.1 c9
        refine ev_iinc (lv' := [(2, .int (x2 + 1)), (3, .int (σ.1 252 (x1).toNatClampNeg)), (0, .ref 245), (1, .int x1)]) (x2 + 1) 3 dX10_findAkins_165 rfl rfl (Nat.le_of_ble_eq_true rfl) rfl ?_
        refine ev_goto 38 dX10_findAkins_168 (by decide) ?_
        refine ev_sub [2, 3, 0] rfl ?_
        exact h
      · replace h := h.2 c9
        refine ev_aload_n 1 dX10_findAkins_68 rfl ?_
        refine ev_getR (r := 252) G10 lay_245 (k := 10) rfl (Nat.le_of_ble_eq_true rfl) dX10_findAkins_69 w_1236 ?_
        refine ev_iload_n 3 dX10_findAkins_72 rfl ?_
        have hb73 := h.1
        replace h := h.2
        refine ev_iald lay_252 (Nat.le_of_ble_eq_true rfl) hb73 dX10_findAkins_73 ?_
        refine ev_iload_n 0 dX10_findAkins_74 rfl ?_
        refine ev_icmp_ne 165 dX10_findAkins_75 (by decide) (fun c9 => ?_) (fun c9 => ?_)
        · replace h := h.2 c9
          refine ev_iinc (lv' := [(2, .int (x2 + 1)), (3, .int (σ.1 252 (x1).toNatClampNeg)), (0, .ref 245), (1, .int x1)]) (x2 + 1) 3 dX10_findAkins_165 rfl rfl (Nat.le_of_ble_eq_true rfl) rfl ?_
          refine ev_goto 38 dX10_findAkins_168 (by decide) ?_
          refine ev_sub [2, 3, 0] rfl ?_
          exact h
        · replace h := h.1 c9
          refine ev_iload_n 0 dX10_findAkins_78 rfl ?_
          refine ev_iconst 1 dX10_findAkins_79 (by decide) ?_
          refine ev_icmp_le 165 dX10_findAkins_80 (by decide) (fun c9 => ?_) (fun c9 => ?_)
          · replace h := h.1 c9
            refine ev_iinc (lv' := [(2, .int (x2 + 1)), (3, .int (σ.1 252 (x1).toNatClampNeg)), (0, .ref 245), (1, .int x1)]) (x2 + 1) 3 dX10_findAkins_165 rfl rfl (Nat.le_of_ble_eq_true rfl) rfl ?_
            refine ev_goto 38 dX10_findAkins_168 (by decide) ?_
            refine ev_sub [2, 3, 0] rfl ?_
            exact h
          · replace h := h.2 c9
            refine ev_aload_n 1 dX10_findAkins_83 rfl ?_
            refine ev_iload_n 2 dX10_findAkins_84 rfl ?_
            refine ev_iload_n 3 dX10_findAkins_85 rfl ?_
            refine ev_callV (M' := mX10_alikeTo) [.int x1, .int x2] vX10_alikeTo G10 lay_245 dX10_findAkins_86 w_1525 rfl rfl (Nat.le_of_ble_eq_true rfl) h ?_
            rintro r9 σ2 ⟨v2, rfl, h⟩
            refine ev_iload_n 0 dX10_findAkins_89 rfl ?_
            refine ev_iconst 1 dX10_findAkins_90 (by decide) ?_
            refine ev_isub dX10_findAkins_91 ?_
            refine ev_icmp_ne 165 dX10_findAkins_92 (by decide) (fun c9 => ?_) (fun c9 => ?_)
            · replace h := h.2 c9
              refine ev_iinc (lv' := [(2, .int (x2 + 1)), (3, .int (σ.1 252 (x1).toNatClampNeg)), (0, .ref 245), (1, .int x1)]) (x2 + 1) 3 dX10_findAkins_165 rfl rfl (Nat.le_of_ble_eq_true rfl) rfl ?_
              refine ev_goto 38 dX10_findAkins_168 (by decide) ?_
              refine ev_sub [2, 3, 0] rfl ?_
              exact h
            · replace h := h.1 c9
              refine ev_aload_n 1 dX10_findAkins_95 rfl ?_
              refine ev_iload_n 2 dX10_findAkins_96 rfl ?_
              refine ev_callV (M' := mX10_isFirstOfItsRow) [.int x1] vX10_isFirstOfItsRow G10 lay_245 dX10_findAkins_97 w_1529 rfl rfl (Nat.le_of_ble_eq_true rfl) h ?_
              rintro r9 σ3 ⟨v3, rfl, h⟩
              refine ev_if_eq 165 dX10_findAkins_100 (by decide) (fun c9 => ?_) (fun c9 => ?_)
              · replace h := h.1 c9
                refine ev_iinc (lv' := [(2, .int (x2 + 1)), (3, .int (σ.1 252 (x1).toNatClampNeg)), (0, .ref 245), (1, .int x1)]) (x2 + 1) 3 dX10_findAkins_165 rfl rfl (Nat.le_of_ble_eq_true rfl) rfl ?_
                refine ev_goto 38 dX10_findAkins_168 (by decide) ?_
                refine ev_sub [2, 3, 0] rfl ?_
                exact h
              · replace h := h.2 c9
                refine ev_aload_n 1 dX10_findAkins_103 rfl ?_
                refine ev_iload_n 3 dX10_findAkins_104 rfl ?_
                refine ev_callV (M' := mX10_isFirstOfItsRow) [.int x2] vX10_isFirstOfItsRow G10 lay_245 dX10_findAkins_105 w_1529 rfl rfl (Nat.le_of_ble_eq_true rfl) h ?_
                rintro r9 σ4 ⟨v4, rfl, h⟩
                refine ev_if_eq 165 dX10_findAkins_108 (by decide) (fun c9 => ?_) (fun c9 => ?_)
                · replace h := h.1 c9
                  refine ev_iinc (lv' := [(2, .int (x2 + 1)), (3, .int (σ.1 252 (x1).toNatClampNeg)), (0, .ref 245), (1, .int x1)]) (x2 + 1) 3 dX10_findAkins_165 rfl rfl (Nat.le_of_ble_eq_true rfl) rfl ?_
                  refine ev_goto 38 dX10_findAkins_168 (by decide) ?_
                  refine ev_sub [2, 3, 0] rfl ?_
                  exact h
                · replace h := h.2 c9
                  refine ev_aload_n 1 dX10_findAkins_111 rfl ?_
                  refine ev_iload_n 2 dX10_findAkins_112 rfl ?_
                  refine ev_iload_n 0 dX10_findAkins_113 rfl ?_
                  refine ev_iconst 1 dX10_findAkins_114 (by decide) ?_
                  refine ev_isub dX10_findAkins_115 ?_
                  refine ev_callV (M' := mX10_wordAt) [.int x1, .int ((σ.1 252 (x1).toNatClampNeg) - 1)] vX10_wordAt G10 lay_245 dX10_findAkins_116 w_1513 rfl rfl (Nat.le_of_ble_eq_true rfl) h ?_
                  rintro r9 σ5 ⟨v5, rfl, h⟩
                  refine ev_istore (lv' := [(4, .int v5), (3, .int (σ.1 252 (x1).toNatClampNeg)), (0, .ref 245), (1, .int x1), (2, .int x2)]) dX10_findAkins_119 (Nat.le_of_ble_eq_true rfl) rfl ?_
                  refine ev_aload_n 2 dX10_findAkins_121 rfl ?_
                  refine ev_iload_n 4 dX10_findAkins_122 rfl ?_
                  refine ev_iload_n 1 dX10_findAkins_123 rfl ?_
                  refine ev_iconst 1 dX10_findAkins_124 (by decide) ?_
                  refine ev_isub dX10_findAkins_125 ?_
                  refine ev_callV (M' := mX10_wordAt) [.int x2, .int ((σ.1 252 (x1).toNatClampNeg) - 1)] vX10_wordAt G10 lay_245 dX10_findAkins_126 w_1513 rfl rfl (Nat.le_of_ble_eq_true rfl) h ?_
                  rintro r9 σ6 ⟨v6, rfl, h⟩
                  refine ev_istore (lv' := [(5, .int v6), (4, .int v5), (3, .int (σ.1 252 (x1).toNatClampNeg)), (0, .ref 245), (1, .int x1), (2, .int x2)]) dX10_findAkins_129 (Nat.le_of_ble_eq_true rfl) rfl ?_
                  refine ev_aload_n 3 dX10_findAkins_131 rfl ?_
                  refine ev_getR (r := 256) G10 lay_245 (k := 14) rfl (Nat.le_of_ble_eq_true rfl) dX10_findAkins_132 w_1240 ?_
                  refine ev_bipush 24 dX10_findAkins_135 (by decide) ?_
                  refine ev_iload 1 dX10_findAkins_137 rfl ?_
                  refine ev_imul dX10_findAkins_139 ?_
                  refine ev_iload 0 dX10_findAkins_140 rfl ?_
                  refine ev_iadd dX10_findAkins_142 ?_
                  refine ev_dup2 dX10_findAkins_143 rfl rfl ?_
                  have hb144 := h.1
                  replace h := h.2
                  refine ev_iald lay_256 (Nat.le_of_ble_eq_true rfl) hb144 dX10_findAkins_144 ?_
                  refine ev_iconst 1 dX10_findAkins_145 (by decide) ?_
                  refine ev_iadd dX10_findAkins_146 ?_
                  have hb147 := h.1
                  replace h := h.2
                  refine ev_iast lay_256 (Nat.le_of_ble_eq_true rfl) hb147 dX10_findAkins_147 ?_
                  refine ev_aload_n 3 dX10_findAkins_148 rfl ?_
                  refine ev_getR (r := 256) G10 lay_245 (k := 14) rfl (Nat.le_of_ble_eq_true rfl) dX10_findAkins_149 w_1240 ?_
                  refine ev_bipush 24 dX10_findAkins_152 (by decide) ?_
                  refine ev_iload 0 dX10_findAkins_154 rfl ?_
                  refine ev_imul dX10_findAkins_156 ?_
                  refine ev_iload 1 dX10_findAkins_157 rfl ?_
                  refine ev_iadd dX10_findAkins_159 ?_
                  refine ev_dup2 dX10_findAkins_160 rfl rfl ?_
                  have hb161 := h.1
                  replace h := h.2
                  refine ev_iald lay_256 (Nat.le_of_ble_eq_true rfl) hb161 dX10_findAkins_161 ?_
                  refine ev_iconst 1 dX10_findAkins_162 (by decide) ?_
                  refine ev_iadd dX10_findAkins_163 ?_
                  have hb164 := h.1
                  replace h := h.2
                  refine ev_iast lay_256 (Nat.le_of_ble_eq_true rfl) hb164 dX10_findAkins_164 ?_
                  refine ev_iinc (lv' := [(2, .int (x2 + 1)), (5, .int v6), (4, .int v5), (3, .int (σ.1 252 (x1).toNatClampNeg)), (0, .ref 245), (1, .int x1)]) (x2 + 1) 5 dX10_findAkins_165 rfl rfl (Nat.le_of_ble_eq_true rfl) rfl ?_
                  refine ev_goto 38 dX10_findAkins_168 (by decide) ?_
                  refine ev_sub [4, 5, 0] rfl ?_
                  exact h
theorem EX10_akin {N : Nat} {σ : Sg} {Q : Option Value → Sg → Prop} {x1 : Int32} {x2 : Int32} (h : EvM (N + 4) mX10_isSign [.ref 245, .int x1] σ (fun r9 σ1 => ∃ v1, r9 = some (.int v1) ∧ ((v1 = 0 → Q (some (.int (-1))) σ1) ∧ (¬ v1 = 0 → EvM (N + 4) mX10_isSign [.ref 245, .int x2] σ1 (fun r9 σ2 => ∃ v2, r9 = some (.int v2) ∧ ((v2 = 0 → Q (some (.int (-1))) σ2) ∧ (¬ v2 = 0 → (x1 = x2 → Q (some (.int (-1))) σ2) ∧ (¬ x1 = x2 → EvM (N + 4) mX10_findAkins [.ref 245] σ2 (fun r9 σ3 => r9 = none ∧ (vp_in ((24 * x1) + x2) 576 ∧ (Q (some (.int (σ3.1 256 ((24 * x1) + x2).toNatClampNeg))) σ3))))))))))) : EvM (N + 5) mX10_akin [.ref 245, .int x1, .int x2] σ Q := by
  refine ev_entry rfl (Nat.le_of_ble_eq_true rfl) (lv := [(0, .ref 245), (1, .int x1), (2, .int x2)]) rfl ?_
  refine ev_aload_n 0 dX10_akin_0 rfl ?_
  refine ev_iload_n 1 dX10_akin_1 rfl ?_
  refine ev_callV (M' := mX10_isSign) [.int x1] vX10_isSign G10 lay_245 dX10_akin_2 w_1479 rfl rfl (Nat.le_of_ble_eq_true rfl) h ?_
  rintro r9 σ1 ⟨v1, rfl, h⟩
  refine ev_if_eq 21 dX10_akin_5 (by decide) (fun c9 => ?_) (fun c9 => ?_)
  · replace h := h.1 c9
    refine ev_iconst (-1) dX10_akin_21 (by decide) ?_
    exact ev_iret rfl dX10_akin_22 h
  · replace h := h.2 c9
    refine ev_aload_n 0 dX10_akin_8 rfl ?_
    refine ev_iload_n 2 dX10_akin_9 rfl ?_
    refine ev_callV (M' := mX10_isSign) [.int x2] vX10_isSign G10 lay_245 dX10_akin_10 w_1479 rfl rfl (Nat.le_of_ble_eq_true rfl) h ?_
    rintro r9 σ2 ⟨v2, rfl, h⟩
    refine ev_if_eq 21 dX10_akin_13 (by decide) (fun c9 => ?_) (fun c9 => ?_)
    · replace h := h.1 c9
      refine ev_iconst (-1) dX10_akin_21 (by decide) ?_
      exact ev_iret rfl dX10_akin_22 h
    · replace h := h.2 c9
      refine ev_iload_n 1 dX10_akin_16 rfl ?_
      refine ev_iload_n 2 dX10_akin_17 rfl ?_
      refine ev_icmp_ne 23 dX10_akin_18 (by decide) (fun c9 => ?_) (fun c9 => ?_)
      · replace h := h.2 c9
        refine ev_aload_n 0 dX10_akin_23 rfl ?_
        refine ev_callV (M' := mX10_findAkins) [] vX10_findAkins G10 lay_245 dX10_akin_24 w_1521 rfl rfl (Nat.le_of_ble_eq_true rfl) h ?_
        rintro r9 σ3 ⟨rfl, h⟩
        refine ev_aload_n 0 dX10_akin_27 rfl ?_
        refine ev_getR (r := 256) G10 lay_245 (k := 14) rfl (Nat.le_of_ble_eq_true rfl) dX10_akin_28 w_1240 ?_
        refine ev_bipush 24 dX10_akin_31 (by decide) ?_
        refine ev_iload_n 1 dX10_akin_33 rfl ?_
        refine ev_imul dX10_akin_34 ?_
        refine ev_iload_n 2 dX10_akin_35 rfl ?_
        refine ev_iadd dX10_akin_36 ?_
        have hb37 := h.1
        replace h := h.2
        refine ev_iald lay_256 (Nat.le_of_ble_eq_true rfl) hb37 dX10_akin_37 ?_
        exact ev_iret rfl dX10_akin_38 h
      · replace h := h.1 c9
        refine ev_iconst (-1) dX10_akin_21 (by decide) ?_
        exact ev_iret rfl dX10_akin_22 h
theorem EX10_apart {N : Nat} {σ : Sg} {Q : Option Value → Sg → Prop} {x1 : Int32} {x2 : Int32} {x3 : Int32} (h : EvM (N + 1) mX10_isForm [.ref 245, .int x1] σ (fun r9 σ1 => ∃ v1, r9 = some (.int v1) ∧ ((v1 = 0 → Q (some (.int (-1))) σ1) ∧ (¬ v1 = 0 → EvM (N + 1) mX10_isForm [.ref 245, .int x2] σ1 (fun r9 σ2 => ∃ v2, r9 = some (.int v2) ∧ ((v2 = 0 → Q (some (.int (-1))) σ2) ∧ (¬ v2 = 0 → (x1 = x2 → Q (some (.int (-1))) σ2) ∧ (¬ x1 = x2 → ((0 ≤ ((x3).toInt64).toInt ∧ ((x3).toInt64).toInt ≤ 9) → vp_in ((24 * x1) + x2) 576 ∧ (vp_in ((24 * x1) + x2) 576 ∧ (vp_in ((24 * x2) + x1) 576 ∧ (Q (some (.int (σ2.1 255 ((24 * x1) + x2).toNatClampNeg))) (u1 (u1 σ2 255 ((24 * x1) + x2).toNatClampNeg x3) 255 ((24 * x2) + x1).toNatClampNeg x3))))) ∧ (¬ (0 ≤ ((x3).toInt64).toInt ∧ ((x3).toInt64).toInt ≤ 9) → Q (some (.int (-1))) σ2))))))))) : EvM (N + 2) mX10_apart [.ref 245, .int x1, .int x2, .int x3] σ Q := by
  refine ev_entry rfl (Nat.le_of_ble_eq_true rfl) (lv := [(0, .ref 245), (1, .int x1), (2, .int x2), (3, .int x3)]) rfl ?_
  refine ev_aload_n 0 dX10_apart_0 rfl ?_
  refine ev_iload_n 1 dX10_apart_1 rfl ?_
  refine ev_callV (M' := mX10_isForm) [.int x1] vX10_isForm G10 lay_245 dX10_apart_2 w_1440 rfl rfl (Nat.le_of_ble_eq_true rfl) h ?_
  rintro r9 σ1 ⟨v1, rfl, h⟩
  refine ev_if_eq 33 dX10_apart_5 (by decide) (fun c9 => ?_) (fun c9 => ?_)
  · replace h := h.1 c9
    refine ev_iconst (-1) dX10_apart_33 (by decide) ?_
    exact ev_iret rfl dX10_apart_34 h
  · replace h := h.2 c9
    refine ev_aload_n 0 dX10_apart_8 rfl ?_
    refine ev_iload_n 2 dX10_apart_9 rfl ?_
    refine ev_callV (M' := mX10_isForm) [.int x2] vX10_isForm G10 lay_245 dX10_apart_10 w_1440 rfl rfl (Nat.le_of_ble_eq_true rfl) h ?_
    rintro r9 σ2 ⟨v2, rfl, h⟩
    refine ev_if_eq 33 dX10_apart_13 (by decide) (fun c9 => ?_) (fun c9 => ?_)
    · replace h := h.1 c9
      refine ev_iconst (-1) dX10_apart_33 (by decide) ?_
      exact ev_iret rfl dX10_apart_34 h
    · replace h := h.2 c9
      refine ev_iload_n 1 dX10_apart_16 rfl ?_
      refine ev_iload_n 2 dX10_apart_17 rfl ?_
      refine ev_icmp_eq 33 dX10_apart_18 (by decide) (fun c9 => ?_) (fun c9 => ?_)
      · replace h := h.1 c9
        refine ev_iconst (-1) dX10_apart_33 (by decide) ?_
        exact ev_iret rfl dX10_apart_34 h
      · replace h := h.2 c9
        refine ev_iload_n 3 dX10_apart_21 rfl ?_
        refine ev_i2l dX10_apart_22 ?_
        refine ev_lconst 0 dX10_apart_23 (by decide) ?_
        refine ev_ldc2 9 dX10_apart_24 w_1537 ?_
        refine ev_callS (M' := mX10_in) [.long ((x3).toInt64), .long 0, .long 9] vX10_in dX10_apart_27 w_1421 rfl rfl (Nat.le_of_ble_eq_true rfl) (C10_in (P := 0 ≤ ((x3).toInt64).toInt ∧ ((x3).toInt64).toInt ≤ 9) (by (try simp only [i_l]); exact Iff.rfl) (Q := fun r9 s9 => σ2 = s9 ∧ ((r9 = some (.int 1) ∧ (0 ≤ ((x3).toInt64).toInt ∧ ((x3).toInt64).toInt ≤ 9)) ∨ (r9 = some (.int 0) ∧ ¬ (0 ≤ ((x3).toInt64).toInt ∧ ((x3).toInt64).toInt ≤ 9)))) ⟨fun c9 => ⟨rfl, Or.inl ⟨rfl, c9⟩⟩, fun c9 => ⟨rfl, Or.inr ⟨rfl, c9⟩⟩⟩) ?_
        rintro r9 s9 ⟨rfl, ⟨rfl, c9⟩ | ⟨rfl, c9⟩⟩
        · replace h := h.1 c9
          refine ev_if_ne 35 dX10_apart_30 (by decide) (fun c9 => ?_) (fun c9 => ?_)
          · refine ev_aload_n 0 dX10_apart_35 rfl ?_
            refine ev_getR (r := 255) G10 lay_245 (k := 13) rfl (Nat.le_of_ble_eq_true rfl) dX10_apart_36 w_1239 ?_
            refine ev_bipush 24 dX10_apart_39 (by decide) ?_
            refine ev_iload_n 1 dX10_apart_41 rfl ?_
            refine ev_imul dX10_apart_42 ?_
            refine ev_iload_n 2 dX10_apart_43 rfl ?_
            refine ev_iadd dX10_apart_44 ?_
            have hb45 := h.1
            replace h := h.2
            refine ev_iald lay_255 (Nat.le_of_ble_eq_true rfl) hb45 dX10_apart_45 ?_
            refine ev_istore (lv' := [(4, .int (σ2.1 255 ((24 * x1) + x2).toNatClampNeg)), (0, .ref 245), (1, .int x1), (2, .int x2), (3, .int x3)]) dX10_apart_46 (Nat.le_of_ble_eq_true rfl) rfl ?_
            refine ev_aload_n 1 dX10_apart_48 rfl ?_
            refine ev_getR (r := 255) G10 lay_245 (k := 13) rfl (Nat.le_of_ble_eq_true rfl) dX10_apart_49 w_1239 ?_
            refine ev_bipush 24 dX10_apart_52 (by decide) ?_
            refine ev_iload_n 2 dX10_apart_54 rfl ?_
            refine ev_imul dX10_apart_55 ?_
            refine ev_iload_n 3 dX10_apart_56 rfl ?_
            refine ev_iadd dX10_apart_57 ?_
            refine ev_iload_n 4 dX10_apart_58 rfl ?_
            have hb59 := h.1
            replace h := h.2
            refine ev_iast lay_255 (Nat.le_of_ble_eq_true rfl) hb59 dX10_apart_59 ?_
            refine ev_aload_n 1 dX10_apart_60 rfl ?_
            refine ev_getR (r := 255) G10 lay_245 (k := 13) rfl (Nat.le_of_ble_eq_true rfl) dX10_apart_61 w_1239 ?_
            refine ev_bipush 24 dX10_apart_64 (by decide) ?_
            refine ev_iload_n 3 dX10_apart_66 rfl ?_
            refine ev_imul dX10_apart_67 ?_
            refine ev_iload_n 2 dX10_apart_68 rfl ?_
            refine ev_iadd dX10_apart_69 ?_
            refine ev_iload_n 4 dX10_apart_70 rfl ?_
            have hb71 := h.1
            replace h := h.2
            refine ev_iast lay_255 (Nat.le_of_ble_eq_true rfl) hb71 dX10_apart_71 ?_
            refine ev_iload 0 dX10_apart_72 rfl ?_
            exact ev_iret rfl dX10_apart_74 h
          · exact absurd c9 (by decide)
        · replace h := h.2 c9
          refine ev_if_ne 35 dX10_apart_30 (by decide) (fun c9 => ?_) (fun c9 => ?_)
          · exact absurd c9 (by decide)
          · refine ev_iconst (-1) dX10_apart_33 (by decide) ?_
            exact ev_iret rfl dX10_apart_34 h
abbrev KX10_apartOf_5 (N : Nat) (σ : Sg) (Q : Option Value → Sg → Prop) (x1 : Int32) (x2 : Int32) (x3 : Int32) (x4 : Int32) : Prop := Ev N mX10_apartOf 5 [(0, .ref 245), (1, .int x1), (2, .int x2), (3, .int x3), (4, .int x4)] [] σ Q
abbrev KX10_apartOf_17 (N : Nat) (σ : Sg) (Q : Option Value → Sg → Prop) (x1 : Int32) (x2 : Int32) (x3 : Int32) (x4 : Int32) (x5 : Int32) : Prop := Ev N mX10_apartOf 17 [(0, .ref 245), (1, .int x1), (2, .int x2), (3, .int x3), (4, .int x4), (5, .int x5)] [] σ Q
theorem EX10_apartOf {N : Nat} {σ : Sg} {Q : Option Value → Sg → Prop} {x1 : Int32} {x2 : Int32} (h : KX10_apartOf_5 N σ Q x1 x2 0 0) : EvM N mX10_apartOf [.ref 245, .int x1, .int x2] σ Q := by
  refine ev_entry rfl (Nat.le_of_ble_eq_true rfl) (lv := [(0, .ref 245), (1, .int x1), (2, .int x2)]) rfl ?_
  refine ev_iconst 0 dX10_apartOf_0 (by decide) ?_
  refine ev_istore_n (lv' := [(3, .int 0), (0, .ref 245), (1, .int x1), (2, .int x2)]) dX10_apartOf_1 (Nat.le_of_ble_eq_true rfl) rfl ?_
  refine ev_iconst 0 dX10_apartOf_2 (by decide) ?_
  refine ev_istore (lv' := [(4, .int 0), (3, .int 0), (0, .ref 245), (1, .int x1), (2, .int x2)]) dX10_apartOf_3 (Nat.le_of_ble_eq_true rfl) rfl ?_
  refine ev_sub [2, 3, 4, 1, 0] rfl ?_
  exact h
theorem BX10_apartOf_5 {N : Nat} {σ : Sg} {Q : Option Value → Sg → Prop} {x1 : Int32} {x2 : Int32} {x3 : Int32} {x4 : Int32} (h : ((σ.1 245 0) ≤ x4 → Q (some (.int x3)) σ) ∧ (¬ (σ.1 245 0) ≤ x4 → KX10_apartOf_17 N σ Q x1 x2 x3 x4 0)) : KX10_apartOf_5 N σ Q x1 x2 x3 x4 := by
  refine ev_iload 4 dX10_apartOf_5 rfl ?_
  refine ev_aload_n 0 dX10_apartOf_7 rfl ?_
  refine ev_get G10 lay_245 (k := 0) rfl (Nat.le_of_ble_eq_true rfl) dX10_apartOf_8 w_1226 ?_
  refine ev_icmp_ge 92 dX10_apartOf_11 (by decide) (fun c9 => ?_) (fun c9 => ?_)
  · replace h := h.1 c9
    refine ev_iload_n 3 dX10_apartOf_92 rfl ?_
    exact ev_iret rfl dX10_apartOf_93 h
  · replace h := h.2 c9
    refine ev_iconst 0 dX10_apartOf_14 (by decide) ?_
    refine ev_istore (lv' := [(5, .int 0), (0, .ref 245), (1, .int x1), (2, .int x2), (3, .int x3), (4, .int x4)]) dX10_apartOf_15 (Nat.le_of_ble_eq_true rfl) rfl ?_
    refine ev_sub [1, 2, 3, 4, 5, 0] rfl ?_
    exact h
theorem BX10_apartOf_17 {N : Nat} {σ : Sg} {Q : Option Value → Sg → Prop} {x1 : Int32} {x2 : Int32} {x3 : Int32} {x4 : Int32} {x5 : Int32} (h : ((σ.1 245 0) ≤ x5 → KX10_apartOf_5 N σ Q x1 x2 x3 (x4 + 1)) ∧ (¬ (σ.1 245 0) ≤ x5 → vp_in x4 24 ∧ (((σ.1 247 (x4).toNatClampNeg) = x1 → vp_in x5 24 ∧ (((σ.1 247 (x5).toNatClampNeg) = x2 → vp_in ((24 * x4) + x5) 576 ∧ (((σ.1 255 ((24 * x4) + x5).toNatClampNeg) ≤ x3 → KX10_apartOf_17 N σ Q x1 x2 x3 x4 (x5 + 1)) ∧ (¬ (σ.1 255 ((24 * x4) + x5).toNatClampNeg) ≤ x3 → KX10_apartOf_17 N σ Q x1 x2 (σ.1 255 ((24 * x4) + x5).toNatClampNeg) x4 (x5 + 1)))) ∧ (¬ (σ.1 247 (x5).toNatClampNeg) = x2 → (0 ≤ x3 → KX10_apartOf_17 N σ Q x1 x2 x3 x4 (x5 + 1)) ∧ (¬ 0 ≤ x3 → KX10_apartOf_17 N σ Q x1 x2 0 x4 (x5 + 1))))) ∧ (¬ (σ.1 247 (x4).toNatClampNeg) = x1 → (0 ≤ x3 → KX10_apartOf_17 N σ Q x1 x2 x3 x4 (x5 + 1)) ∧ (¬ 0 ≤ x3 → KX10_apartOf_17 N σ Q x1 x2 0 x4 (x5 + 1)))))) : KX10_apartOf_17 N σ Q x1 x2 x3 x4 x5 := by
  refine ev_iload 5 dX10_apartOf_17 rfl ?_
  refine ev_aload_n 0 dX10_apartOf_19 rfl ?_
  refine ev_get G10 lay_245 (k := 0) rfl (Nat.le_of_ble_eq_true rfl) dX10_apartOf_20 w_1226 ?_
  refine ev_icmp_ge 86 dX10_apartOf_23 (by decide) (fun c9 => ?_) (fun c9 => ?_)
  · replace h := h.1 c9
    refine ev_iinc (lv' := [(4, .int (x4 + 1)), (0, .ref 245), (1, .int x1), (2, .int x2), (3, .int x3), (5, .int x5)]) (x4 + 1) 4 dX10_apartOf_86 rfl rfl (Nat.le_of_ble_eq_true rfl) rfl ?_
    refine ev_goto 5 dX10_apartOf_89 (by decide) ?_
    refine ev_sub [1, 2, 3, 4, 0] rfl ?_
    exact h
  · replace h := h.2 c9
    refine ev_aload_n 0 dX10_apartOf_26 rfl ?_
    refine ev_getR (r := 247) G10 lay_245 (k := 3) rfl (Nat.le_of_ble_eq_true rfl) dX10_apartOf_27 w_1229 ?_
    refine ev_iload 4 dX10_apartOf_30 rfl ?_
    have hb32 := h.1
    replace h := h.2
    refine ev_iald lay_247 (Nat.le_of_ble_eq_true rfl) hb32 dX10_apartOf_32 ?_
    refine ev_iload_n 1 dX10_apartOf_33 rfl ?_
    refine ev_icmp_ne 64 dX10_apartOf_34 (by decide) (fun c9 => ?_) (fun c9 => ?_)
    · replace h := h.2 c9
      refine ev_iconst 0 dX10_apartOf_64 (by decide) ?_
      refine ev_istore (lv' := [(6, .int 0), (0, .ref 245), (1, .int x1), (2, .int x2), (3, .int x3), (4, .int x4), (5, .int x5)]) dX10_apartOf_65 (Nat.le_of_ble_eq_true rfl) rfl ?_
      refine ev_iload 0 dX10_apartOf_67 rfl ?_
      refine ev_iload_n 4 dX10_apartOf_69 rfl ?_
      refine ev_icmp_le 78 dX10_apartOf_70 (by decide) (fun c9 => ?_) (fun c9 => ?_)
      · replace h := h.1 c9
        refine ev_iload_n 4 dX10_apartOf_78 rfl ?_
        refine ev_istore_n (lv' := [(3, .int x3), (6, .int 0), (0, .ref 245), (1, .int x1), (2, .int x2), (4, .int x4), (5, .int x5)]) dX10_apartOf_79 (Nat.le_of_ble_eq_true rfl) rfl ?_
        refine ev_iinc (lv' := [(5, .int (x5 + 1)), (3, .int x3), (6, .int 0), (0, .ref 245), (1, .int x1), (2, .int x2), (4, .int x4)]) (x5 + 1) 6 dX10_apartOf_80 rfl rfl (Nat.le_of_ble_eq_true rfl) rfl ?_
        refine ev_goto 17 dX10_apartOf_83 (by decide) ?_
        refine ev_sub [3, 4, 5, 1, 6, 0] rfl ?_
        exact h
      · replace h := h.2 c9
        refine ev_iload 0 dX10_apartOf_73 rfl ?_
        refine ev_goto 79 dX10_apartOf_75 (by decide) ?_
        refine ev_istore_n (lv' := [(3, .int 0), (6, .int 0), (0, .ref 245), (1, .int x1), (2, .int x2), (4, .int x4), (5, .int x5)]) dX10_apartOf_79 (Nat.le_of_ble_eq_true rfl) rfl ?_
        refine ev_iinc (lv' := [(5, .int (x5 + 1)), (3, .int 0), (6, .int 0), (0, .ref 245), (1, .int x1), (2, .int x2), (4, .int x4)]) (x5 + 1) 6 dX10_apartOf_80 rfl rfl (Nat.le_of_ble_eq_true rfl) rfl ?_
        refine ev_goto 17 dX10_apartOf_83 (by decide) ?_
        refine ev_sub [3, 4, 5, 1, 6, 0] rfl ?_
        exact h
    · replace h := h.1 c9
      refine ev_aload_n 0 dX10_apartOf_37 rfl ?_
      refine ev_getR (r := 247) G10 lay_245 (k := 3) rfl (Nat.le_of_ble_eq_true rfl) dX10_apartOf_38 w_1229 ?_
      refine ev_iload 5 dX10_apartOf_41 rfl ?_
      have hb43 := h.1
      replace h := h.2
      refine ev_iald lay_247 (Nat.le_of_ble_eq_true rfl) hb43 dX10_apartOf_43 ?_
      refine ev_iload_n 2 dX10_apartOf_44 rfl ?_
      refine ev_icmp_ne 64 dX10_apartOf_45 (by decide) (fun c9 => ?_) (fun c9 => ?_)
      · replace h := h.2 c9
        refine ev_iconst 0 dX10_apartOf_64 (by decide) ?_
        refine ev_istore (lv' := [(6, .int 0), (0, .ref 245), (1, .int x1), (2, .int x2), (3, .int x3), (4, .int x4), (5, .int x5)]) dX10_apartOf_65 (Nat.le_of_ble_eq_true rfl) rfl ?_
        refine ev_iload 0 dX10_apartOf_67 rfl ?_
        refine ev_iload_n 4 dX10_apartOf_69 rfl ?_
        refine ev_icmp_le 78 dX10_apartOf_70 (by decide) (fun c9 => ?_) (fun c9 => ?_)
        · replace h := h.1 c9
          refine ev_iload_n 4 dX10_apartOf_78 rfl ?_
          refine ev_istore_n (lv' := [(3, .int x3), (6, .int 0), (0, .ref 245), (1, .int x1), (2, .int x2), (4, .int x4), (5, .int x5)]) dX10_apartOf_79 (Nat.le_of_ble_eq_true rfl) rfl ?_
          refine ev_iinc (lv' := [(5, .int (x5 + 1)), (3, .int x3), (6, .int 0), (0, .ref 245), (1, .int x1), (2, .int x2), (4, .int x4)]) (x5 + 1) 6 dX10_apartOf_80 rfl rfl (Nat.le_of_ble_eq_true rfl) rfl ?_
          refine ev_goto 17 dX10_apartOf_83 (by decide) ?_
          refine ev_sub [3, 4, 5, 1, 6, 0] rfl ?_
          exact h
        · replace h := h.2 c9
          refine ev_iload 0 dX10_apartOf_73 rfl ?_
          refine ev_goto 79 dX10_apartOf_75 (by decide) ?_
          refine ev_istore_n (lv' := [(3, .int 0), (6, .int 0), (0, .ref 245), (1, .int x1), (2, .int x2), (4, .int x4), (5, .int x5)]) dX10_apartOf_79 (Nat.le_of_ble_eq_true rfl) rfl ?_
          refine ev_iinc (lv' := [(5, .int (x5 + 1)), (3, .int 0), (6, .int 0), (0, .ref 245), (1, .int x1), (2, .int x2), (4, .int x4)]) (x5 + 1) 6 dX10_apartOf_80 rfl rfl (Nat.le_of_ble_eq_true rfl) rfl ?_
          refine ev_goto 17 dX10_apartOf_83 (by decide) ?_
          refine ev_sub [3, 4, 5, 1, 6, 0] rfl ?_
          exact h
      · replace h := h.1 c9
        refine ev_aload_n 0 dX10_apartOf_48 rfl ?_
        refine ev_getR (r := 255) G10 lay_245 (k := 13) rfl (Nat.le_of_ble_eq_true rfl) dX10_apartOf_49 w_1239 ?_
        refine ev_bipush 24 dX10_apartOf_52 (by decide) ?_
        refine ev_iload 4 dX10_apartOf_54 rfl ?_
        refine ev_imul dX10_apartOf_56 ?_
        refine ev_iload 5 dX10_apartOf_57 rfl ?_
        refine ev_iadd dX10_apartOf_59 ?_
        have hb60 := h.1
        replace h := h.2
        refine ev_iald lay_255 (Nat.le_of_ble_eq_true rfl) hb60 dX10_apartOf_60 ?_
        refine ev_goto 65 dX10_apartOf_61 (by decide) ?_
        refine ev_istore (lv' := [(6, .int (σ.1 255 ((24 * x4) + x5).toNatClampNeg)), (0, .ref 245), (1, .int x1), (2, .int x2), (3, .int x3), (4, .int x4), (5, .int x5)]) dX10_apartOf_65 (Nat.le_of_ble_eq_true rfl) rfl ?_
        refine ev_iload 0 dX10_apartOf_67 rfl ?_
        refine ev_iload_n 4 dX10_apartOf_69 rfl ?_
        refine ev_icmp_le 78 dX10_apartOf_70 (by decide) (fun c9 => ?_) (fun c9 => ?_)
        · replace h := h.1 c9
          refine ev_iload_n 4 dX10_apartOf_78 rfl ?_
          refine ev_istore_n (lv' := [(3, .int x3), (6, .int (σ.1 255 ((24 * x4) + x5).toNatClampNeg)), (0, .ref 245), (1, .int x1), (2, .int x2), (4, .int x4), (5, .int x5)]) dX10_apartOf_79 (Nat.le_of_ble_eq_true rfl) rfl ?_
          refine ev_iinc (lv' := [(5, .int (x5 + 1)), (3, .int x3), (6, .int (σ.1 255 ((24 * x4) + x5).toNatClampNeg)), (0, .ref 245), (1, .int x1), (2, .int x2), (4, .int x4)]) (x5 + 1) 6 dX10_apartOf_80 rfl rfl (Nat.le_of_ble_eq_true rfl) rfl ?_
          refine ev_goto 17 dX10_apartOf_83 (by decide) ?_
          refine ev_sub [3, 4, 5, 1, 6, 0] rfl ?_
          exact h
        · replace h := h.2 c9
          refine ev_iload 0 dX10_apartOf_73 rfl ?_
          refine ev_goto 79 dX10_apartOf_75 (by decide) ?_
          refine ev_istore_n (lv' := [(3, .int (σ.1 255 ((24 * x4) + x5).toNatClampNeg)), (6, .int (σ.1 255 ((24 * x4) + x5).toNatClampNeg)), (0, .ref 245), (1, .int x1), (2, .int x2), (4, .int x4), (5, .int x5)]) dX10_apartOf_79 (Nat.le_of_ble_eq_true rfl) rfl ?_
          refine ev_iinc (lv' := [(5, .int (x5 + 1)), (3, .int (σ.1 255 ((24 * x4) + x5).toNatClampNeg)), (6, .int (σ.1 255 ((24 * x4) + x5).toNatClampNeg)), (0, .ref 245), (1, .int x1), (2, .int x2), (4, .int x4)]) (x5 + 1) 6 dX10_apartOf_80 rfl rfl (Nat.le_of_ble_eq_true rfl) rfl ?_
          refine ev_goto 17 dX10_apartOf_83 (by decide) ?_
          refine ev_sub [3, 4, 5, 1, 6, 0] rfl ?_
          exact h
abbrev KX10_findGridSigns_11 (N : Nat) (σ : Sg) (Q : Option Value → Sg → Prop) (x1 : Int32) : Prop := Ev (N + 5) mX10_findGridSigns 11 [(0, .ref 245), (1, .int x1)] [] σ Q
abbrev KX10_findGridSigns_23 (N : Nat) (σ : Sg) (Q : Option Value → Sg → Prop) (x1 : Int32) (x2 : Int32) (x3 : Int32) : Prop := Ev (N + 5) mX10_findGridSigns 23 [(0, .ref 245), (1, .int x1), (2, .int x2), (3, .int x3)] [] σ Q
abbrev KX10_findGridSigns_136 (N : Nat) (σ : Sg) (Q : Option Value → Sg → Prop) (x1 : Int32) : Prop := Ev (N + 5) mX10_findGridSigns 136 [(0, .ref 245), (1, .int x1)] [] σ Q
abbrev KX10_findGridSigns_146 (N : Nat) (σ : Sg) (Q : Option Value → Sg → Prop) (x1 : Int32) (x2 : Int32) : Prop := Ev (N + 5) mX10_findGridSigns 146 [(0, .ref 245), (1, .int x1), (2, .int x2)] [] σ Q
theorem EX10_findGridSigns {N : Nat} {σ : Sg} {Q : Option Value → Sg → Prop} (h : EvM (N + 4) mX10_findAkins [.ref 245] σ (fun r9 σ1 => r9 = none ∧ (KX10_findGridSigns_11 N (u1 σ1 245 15 0) Q 0))) : EvM (N + 5) mX10_findGridSigns [.ref 245] σ Q := by
  refine ev_entry rfl (Nat.le_of_ble_eq_true rfl) (lv := [(0, .ref 245)]) rfl ?_
  refine ev_aload_n 0 dX10_findGridSigns_0 rfl ?_
  refine ev_callV (M' := mX10_findAkins) [] vX10_findAkins G10 lay_245 dX10_findGridSigns_1 w_1521 rfl rfl (Nat.le_of_ble_eq_true rfl) h ?_
  rintro r9 σ1 ⟨rfl, h⟩
  refine ev_aload_n 0 dX10_findGridSigns_4 rfl ?_
  refine ev_iconst 0 dX10_findGridSigns_5 (by decide) ?_
  refine ev_put G10 lay_245 (k := 15) rfl (Nat.le_of_ble_eq_true rfl) rfl (by decide +kernel) dX10_findGridSigns_6 w_1241 ?_
  refine ev_iconst 0 dX10_findGridSigns_9 (by decide) ?_
  refine ev_istore_n (lv' := [(1, .int 0), (0, .ref 245)]) dX10_findGridSigns_10 (Nat.le_of_ble_eq_true rfl) rfl ?_
  refine ev_sub [1, 0] rfl ?_
  exact h
theorem BX10_findGridSigns_11 {N : Nat} {σ : Sg} {Q : Option Value → Sg → Prop} {x1 : Int32} (h : ((σ.1 245 0) ≤ x1 → KX10_findGridSigns_136 N σ Q 0) ∧ (¬ (σ.1 245 0) ≤ x1 → KX10_findGridSigns_23 N σ Q x1 0 0)) : KX10_findGridSigns_11 N σ Q x1 := by
  refine ev_iload_n 1 dX10_findGridSigns_11 rfl ?_
  refine ev_aload_n 0 dX10_findGridSigns_12 rfl ?_
  refine ev_get G10 lay_245 (k := 0) rfl (Nat.le_of_ble_eq_true rfl) dX10_findGridSigns_13 w_1226 ?_
  refine ev_icmp_ge 134 dX10_findGridSigns_16 (by decide) (fun c9 => ?_) (fun c9 => ?_)
  · replace h := h.1 c9
    refine ev_iconst 0 dX10_findGridSigns_134 (by decide) ?_
    refine ev_istore_n (lv' := [(1, .int 0), (0, .ref 245)]) dX10_findGridSigns_135 (Nat.le_of_ble_eq_true rfl) rfl ?_
    refine ev_sub [1, 0] rfl ?_
    exact h
  · replace h := h.2 c9
    refine ev_iconst 0 dX10_findGridSigns_19 (by decide) ?_
    refine ev_istore_n (lv' := [(2, .int 0), (0, .ref 245), (1, .int x1)]) dX10_findGridSigns_20 (Nat.le_of_ble_eq_true rfl) rfl ?_
    refine ev_iconst 0 dX10_findGridSigns_21 (by decide) ?_
    refine ev_istore_n (lv' := [(3, .int 0), (2, .int 0), (0, .ref 245), (1, .int x1)]) dX10_findGridSigns_22 (Nat.le_of_ble_eq_true rfl) rfl ?_
    refine ev_sub [2, 3, 1, 0] rfl ?_
    exact h
theorem BX10_findGridSigns_23 {N : Nat} {σ : Sg} {Q : Option Value → Sg → Prop} {x1 : Int32} {x2 : Int32} {x3 : Int32} (h : ((σ.1 245 0) ≤ x3 → (x2 = 0 → KX10_findGridSigns_11 N σ Q (x1 + 1)) ∧ (¬ x2 = 0 → (8 ≤ (σ.1 245 15) → KX10_findGridSigns_11 N σ Q (x1 + 1)) ∧ (¬ 8 ≤ (σ.1 245 15) → vp_in (σ.1 245 15) 8 ∧ (KX10_findGridSigns_11 N (u1 (u1 σ 257 (σ.1 245 15).toNatClampNeg x1) 245 15 (((u1 σ 257 (σ.1 245 15).toNatClampNeg x1).1 245 15) + 1)) Q (x1 + 1))))) ∧ (¬ (σ.1 245 0) ≤ x3 → vp_in x1 24 ∧ (((σ.1 247 (x1).toNatClampNeg) = x1 → (x2 = 0 → vp_in x3 24 ∧ (((σ.1 247 (x3).toNatClampNeg) = x3 → (x3 = x1 → KX10_findGridSigns_23 N σ Q x1 0 (x3 + 1)) ∧ (¬ x3 = x1 → vp_in ((24 * x1) + x3) 576 ∧ ((0 < (σ.1 256 ((24 * x1) + x3).toNatClampNeg) → KX10_findGridSigns_23 N σ Q x1 1 (x3 + 1)) ∧ (¬ 0 < (σ.1 256 ((24 * x1) + x3).toNatClampNeg) → EvM (N + 4) mX10_apartOf [.ref 245, .int x1, .int x3] σ (fun r9 σ2 => ∃ v2, r9 = some (.int v2) ∧ ((v2 ≤ 0 → KX10_findGridSigns_23 N σ2 Q x1 0 (x3 + 1)) ∧ (¬ v2 ≤ 0 → KX10_findGridSigns_23 N σ2 Q x1 1 (x3 + 1)))))))) ∧ (¬ (σ.1 247 (x3).toNatClampNeg) = x3 → KX10_findGridSigns_23 N σ Q x1 0 (x3 + 1)))) ∧ (¬ x2 = 0 → KX10_findGridSigns_23 N σ Q x1 1 (x3 + 1))) ∧ (¬ (σ.1 247 (x1).toNatClampNeg) = x1 → (x2 = 0 → KX10_findGridSigns_11 N σ Q (x1 + 1)) ∧ (¬ x2 = 0 → (8 ≤ (σ.1 245 15) → KX10_findGridSigns_11 N σ Q (x1 + 1)) ∧ (¬ 8 ≤ (σ.1 245 15) → vp_in (σ.1 245 15) 8 ∧ (KX10_findGridSigns_11 N (u1 (u1 σ 257 (σ.1 245 15).toNatClampNeg x1) 245 15 (((u1 σ 257 (σ.1 245 15).toNatClampNeg x1).1 245 15) + 1)) Q (x1 + 1)))))))) : KX10_findGridSigns_23 N σ Q x1 x2 x3 := by
  refine ev_iload_n 3 dX10_findGridSigns_23 rfl ?_
  refine ev_aload_n 0 dX10_findGridSigns_24 rfl ?_
  refine ev_get G10 lay_245 (k := 0) rfl (Nat.le_of_ble_eq_true rfl) dX10_findGridSigns_25 w_1226 ?_
  refine ev_icmp_ge 95 dX10_findGridSigns_28 (by decide) (fun c9 => ?_) (fun c9 => ?_)
  · replace h := h.1 c9
    refine ev_iload_n 2 dX10_findGridSigns_95 rfl ?_
    refine ev_if_eq 128 dX10_findGridSigns_96 (by decide) (fun c9 => ?_) (fun c9 => ?_)
    · replace h := h.1 c9
      refine ev_iinc (lv' := [(1, .int (x1 + 1)), (0, .ref 245), (2, .int x2), (3, .int x3)]) (x1 + 1) 1 dX10_findGridSigns_128 rfl rfl (Nat.le_of_ble_eq_true rfl) rfl ?_
      refine ev_goto 11 dX10_findGridSigns_131 (by decide) ?_
      refine ev_sub [1, 0] rfl ?_
      exact h
    · replace h := h.2 c9
      refine ev_aload_n 0 dX10_findGridSigns_99 rfl ?_
      refine ev_get G10 lay_245 (k := 15) rfl (Nat.le_of_ble_eq_true rfl) dX10_findGridSigns_100 w_1241 ?_
      refine ev_bipush 8 dX10_findGridSigns_103 (by decide) ?_
      refine ev_icmp_ge 128 dX10_findGridSigns_105 (by decide) (fun c9 => ?_) (fun c9 => ?_)
      · replace h := h.1 c9
        refine ev_iinc (lv' := [(1, .int (x1 + 1)), (0, .ref 245), (2, .int x2), (3, .int x3)]) (x1 + 1) 1 dX10_findGridSigns_128 rfl rfl (Nat.le_of_ble_eq_true rfl) rfl ?_
        refine ev_goto 11 dX10_findGridSigns_131 (by decide) ?_
        refine ev_sub [1, 0] rfl ?_
        exact h
      · replace h := h.2 c9
        refine ev_aload_n 0 dX10_findGridSigns_108 rfl ?_
        refine ev_getR (r := 257) G10 lay_245 (k := 16) rfl (Nat.le_of_ble_eq_true rfl) dX10_findGridSigns_109 w_1242 ?_
        refine ev_aload_n 0 dX10_findGridSigns_112 rfl ?_
        refine ev_get G10 lay_245 (k := 15) rfl (Nat.le_of_ble_eq_true rfl) dX10_findGridSigns_113 w_1241 ?_
        refine ev_iload_n 1 dX10_findGridSigns_116 rfl ?_
        have hb117 := h.1
        replace h := h.2
        refine ev_iast lay_257 (Nat.le_of_ble_eq_true rfl) hb117 dX10_findGridSigns_117 ?_
        refine ev_aload_n 0 dX10_findGridSigns_118 rfl ?_
        refine ev_dup dX10_findGridSigns_119 rfl ?_
        refine ev_get G10 lay_245 (k := 15) rfl (Nat.le_of_ble_eq_true rfl) dX10_findGridSigns_120 w_1241 ?_
        refine ev_iconst 1 dX10_findGridSigns_123 (by decide) ?_
        refine ev_iadd dX10_findGridSigns_124 ?_
        refine ev_put G10 lay_245 (k := 15) rfl (Nat.le_of_ble_eq_true rfl) rfl (by decide +kernel) dX10_findGridSigns_125 w_1241 ?_
        refine ev_iinc (lv' := [(1, .int (x1 + 1)), (0, .ref 245), (2, .int x2), (3, .int x3)]) (x1 + 1) 1 dX10_findGridSigns_128 rfl rfl (Nat.le_of_ble_eq_true rfl) rfl ?_
        refine ev_goto 11 dX10_findGridSigns_131 (by decide) ?_
        refine ev_sub [1, 0] rfl ?_
        exact h
  · replace h := h.2 c9
    refine ev_aload_n 0 dX10_findGridSigns_31 rfl ?_
    refine ev_getR (r := 247) G10 lay_245 (k := 3) rfl (Nat.le_of_ble_eq_true rfl) dX10_findGridSigns_32 w_1229 ?_
    refine ev_iload_n 1 dX10_findGridSigns_35 rfl ?_
    have hb36 := h.1
    replace h := h.2
    refine ev_iald lay_247 (Nat.le_of_ble_eq_true rfl) hb36 dX10_findGridSigns_36 ?_
    refine ev_iload_n 1 dX10_findGridSigns_37 rfl ?_
    refine ev_icmp_ne 95 dX10_findGridSigns_38 (by decide) (fun c9 => ?_) (fun c9 => ?_)
    · replace h := h.2 c9
      refine ev_iload_n 2 dX10_findGridSigns_95 rfl ?_
      refine ev_if_eq 128 dX10_findGridSigns_96 (by decide) (fun c9 => ?_) (fun c9 => ?_)
      · replace h := h.1 c9
        refine ev_iinc (lv' := [(1, .int (x1 + 1)), (0, .ref 245), (2, .int x2), (3, .int x3)]) (x1 + 1) 1 dX10_findGridSigns_128 rfl rfl (Nat.le_of_ble_eq_true rfl) rfl ?_
        refine ev_goto 11 dX10_findGridSigns_131 (by decide) ?_
        refine ev_sub [1, 0] rfl ?_
        exact h
      · replace h := h.2 c9
        refine ev_aload_n 0 dX10_findGridSigns_99 rfl ?_
        refine ev_get G10 lay_245 (k := 15) rfl (Nat.le_of_ble_eq_true rfl) dX10_findGridSigns_100 w_1241 ?_
        refine ev_bipush 8 dX10_findGridSigns_103 (by decide) ?_
        refine ev_icmp_ge 128 dX10_findGridSigns_105 (by decide) (fun c9 => ?_) (fun c9 => ?_)
        · replace h := h.1 c9
          refine ev_iinc (lv' := [(1, .int (x1 + 1)), (0, .ref 245), (2, .int x2), (3, .int x3)]) (x1 + 1) 1 dX10_findGridSigns_128 rfl rfl (Nat.le_of_ble_eq_true rfl) rfl ?_
          refine ev_goto 11 dX10_findGridSigns_131 (by decide) ?_
          refine ev_sub [1, 0] rfl ?_
          exact h
        · replace h := h.2 c9
          refine ev_aload_n 0 dX10_findGridSigns_108 rfl ?_
          refine ev_getR (r := 257) G10 lay_245 (k := 16) rfl (Nat.le_of_ble_eq_true rfl) dX10_findGridSigns_109 w_1242 ?_
          refine ev_aload_n 0 dX10_findGridSigns_112 rfl ?_
          refine ev_get G10 lay_245 (k := 15) rfl (Nat.le_of_ble_eq_true rfl) dX10_findGridSigns_113 w_1241 ?_
          refine ev_iload_n 1 dX10_findGridSigns_116 rfl ?_
          have hb117 := h.1
          replace h := h.2
          refine ev_iast lay_257 (Nat.le_of_ble_eq_true rfl) hb117 dX10_findGridSigns_117 ?_
          refine ev_aload_n 0 dX10_findGridSigns_118 rfl ?_
          refine ev_dup dX10_findGridSigns_119 rfl ?_
          refine ev_get G10 lay_245 (k := 15) rfl (Nat.le_of_ble_eq_true rfl) dX10_findGridSigns_120 w_1241 ?_
          refine ev_iconst 1 dX10_findGridSigns_123 (by decide) ?_
          refine ev_iadd dX10_findGridSigns_124 ?_
          refine ev_put G10 lay_245 (k := 15) rfl (Nat.le_of_ble_eq_true rfl) rfl (by decide +kernel) dX10_findGridSigns_125 w_1241 ?_
          refine ev_iinc (lv' := [(1, .int (x1 + 1)), (0, .ref 245), (2, .int x2), (3, .int x3)]) (x1 + 1) 1 dX10_findGridSigns_128 rfl rfl (Nat.le_of_ble_eq_true rfl) rfl ?_
          refine ev_goto 11 dX10_findGridSigns_131 (by decide) ?_
          refine ev_sub [1, 0] rfl ?_
          exact h
    · replace h := h.1 c9
      refine ev_iload_n 2 dX10_findGridSigns_41 rfl ?_
      refine ev_if_ne 83 dX10_findGridSigns_42 (by decide) (fun c9 => ?_) (fun c9 => ?_)
      · replace h := h.2 c9
        refine ev_iconst 1 dX10_findGridSigns_83 (by decide) ?_
        refine ev_goto 88 dX10_findGridSigns_84 (by decide) ?_
        refine ev_istore_n (lv' := [(2, .int 1), (0, .ref 245), (1, .int x1), (3, .int x3)]) dX10_findGridSigns_88 (Nat.le_of_ble_eq_true rfl) rfl ?_
        refine ev_iinc (lv' := [(3, .int (x3 + 1)), (2, .int 1), (0, .ref 245), (1, .int x1)]) (x3 + 1) 3 dX10_findGridSigns_89 rfl rfl (Nat.le_of_ble_eq_true rfl) rfl ?_
        refine ev_goto 23 dX10_findGridSigns_92 (by decide) ?_
        refine ev_sub [2, 3, 1, 0] rfl ?_
        exact h
      · replace h := h.1 c9
        refine ev_aload_n 0 dX10_findGridSigns_45 rfl ?_
        refine ev_getR (r := 247) G10 lay_245 (k := 3) rfl (Nat.le_of_ble_eq_true rfl) dX10_findGridSigns_46 w_1229 ?_
        refine ev_iload_n 3 dX10_findGridSigns_49 rfl ?_
        have hb50 := h.1
        replace h := h.2
        refine ev_iald lay_247 (Nat.le_of_ble_eq_true rfl) hb50 dX10_findGridSigns_50 ?_
        refine ev_iload_n 3 dX10_findGridSigns_51 rfl ?_
        refine ev_icmp_ne 87 dX10_findGridSigns_52 (by decide) (fun c9 => ?_) (fun c9 => ?_)
        · replace h := h.2 c9
          refine ev_iconst 0 dX10_findGridSigns_87 (by decide) ?_
          refine ev_istore_n (lv' := [(2, .int 0), (0, .ref 245), (1, .int x1), (3, .int x3)]) dX10_findGridSigns_88 (Nat.le_of_ble_eq_true rfl) rfl ?_
          refine ev_iinc (lv' := [(3, .int (x3 + 1)), (2, .int 0), (0, .ref 245), (1, .int x1)]) (x3 + 1) 3 dX10_findGridSigns_89 rfl rfl (Nat.le_of_ble_eq_true rfl) rfl ?_
          refine ev_goto 23 dX10_findGridSigns_92 (by decide) ?_
          refine ev_sub [2, 3, 1, 0] rfl ?_
          exact h
        · replace h := h.1 c9
          refine ev_iload_n 3 dX10_findGridSigns_55 rfl ?_
          refine ev_iload_n 1 dX10_findGridSigns_56 rfl ?_
          refine ev_icmp_eq 87 dX10_findGridSigns_57 (by decide) (fun c9 => ?_) (fun c9 => ?_)
          · replace h := h.1 c9
            refine ev_iconst 0 dX10_findGridSigns_87 (by decide) ?_
            refine ev_istore_n (lv' := [(2, .int 0), (0, .ref 245), (1, .int x1), (3, .int x3)]) dX10_findGridSigns_88 (Nat.le_of_ble_eq_true rfl) rfl ?_
            refine ev_iinc (lv' := [(3, .int (x3 + 1)), (2, .int 0), (0, .ref 245), (1, .int x1)]) (x3 + 1) 3 dX10_findGridSigns_89 rfl rfl (Nat.le_of_ble_eq_true rfl) rfl ?_
            refine ev_goto 23 dX10_findGridSigns_92 (by decide) ?_
            refine ev_sub [2, 3, 1, 0] rfl ?_
            exact h
          · replace h := h.2 c9
            refine ev_aload_n 0 dX10_findGridSigns_60 rfl ?_
            refine ev_getR (r := 256) G10 lay_245 (k := 14) rfl (Nat.le_of_ble_eq_true rfl) dX10_findGridSigns_61 w_1240 ?_
            refine ev_bipush 24 dX10_findGridSigns_64 (by decide) ?_
            refine ev_iload_n 1 dX10_findGridSigns_66 rfl ?_
            refine ev_imul dX10_findGridSigns_67 ?_
            refine ev_iload_n 3 dX10_findGridSigns_68 rfl ?_
            refine ev_iadd dX10_findGridSigns_69 ?_
            have hb70 := h.1
            replace h := h.2
            refine ev_iald lay_256 (Nat.le_of_ble_eq_true rfl) hb70 dX10_findGridSigns_70 ?_
            refine ev_if_gt 83 dX10_findGridSigns_71 (by decide) (fun c9 => ?_) (fun c9 => ?_)
            · replace h := h.1 c9
              refine ev_iconst 1 dX10_findGridSigns_83 (by decide) ?_
              refine ev_goto 88 dX10_findGridSigns_84 (by decide) ?_
              refine ev_istore_n (lv' := [(2, .int 1), (0, .ref 245), (1, .int x1), (3, .int x3)]) dX10_findGridSigns_88 (Nat.le_of_ble_eq_true rfl) rfl ?_
              refine ev_iinc (lv' := [(3, .int (x3 + 1)), (2, .int 1), (0, .ref 245), (1, .int x1)]) (x3 + 1) 3 dX10_findGridSigns_89 rfl rfl (Nat.le_of_ble_eq_true rfl) rfl ?_
              refine ev_goto 23 dX10_findGridSigns_92 (by decide) ?_
              refine ev_sub [2, 3, 1, 0] rfl ?_
              exact h
            · replace h := h.2 c9
              refine ev_aload_n 0 dX10_findGridSigns_74 rfl ?_
              refine ev_iload_n 1 dX10_findGridSigns_75 rfl ?_
              refine ev_iload_n 3 dX10_findGridSigns_76 rfl ?_
              refine ev_callV (M' := mX10_apartOf) [.int x1, .int x3] vX10_apartOf G10 lay_245 dX10_findGridSigns_77 w_1550 rfl rfl (Nat.le_of_ble_eq_true rfl) h ?_
              rintro r9 σ2 ⟨v2, rfl, h⟩
              refine ev_if_le 87 dX10_findGridSigns_80 (by decide) (fun c9 => ?_) (fun c9 => ?_)
              · replace h := h.1 c9
                refine ev_iconst 0 dX10_findGridSigns_87 (by decide) ?_
                refine ev_istore_n (lv' := [(2, .int 0), (0, .ref 245), (1, .int x1), (3, .int x3)]) dX10_findGridSigns_88 (Nat.le_of_ble_eq_true rfl) rfl ?_
                refine ev_iinc (lv' := [(3, .int (x3 + 1)), (2, .int 0), (0, .ref 245), (1, .int x1)]) (x3 + 1) 3 dX10_findGridSigns_89 rfl rfl (Nat.le_of_ble_eq_true rfl) rfl ?_
                refine ev_goto 23 dX10_findGridSigns_92 (by decide) ?_
                refine ev_sub [2, 3, 1, 0] rfl ?_
                exact h
              · replace h := h.2 c9
                refine ev_iconst 1 dX10_findGridSigns_83 (by decide) ?_
                refine ev_goto 88 dX10_findGridSigns_84 (by decide) ?_
                refine ev_istore_n (lv' := [(2, .int 1), (0, .ref 245), (1, .int x1), (3, .int x3)]) dX10_findGridSigns_88 (Nat.le_of_ble_eq_true rfl) rfl ?_
                refine ev_iinc (lv' := [(3, .int (x3 + 1)), (2, .int 1), (0, .ref 245), (1, .int x1)]) (x3 + 1) 3 dX10_findGridSigns_89 rfl rfl (Nat.le_of_ble_eq_true rfl) rfl ?_
                refine ev_goto 23 dX10_findGridSigns_92 (by decide) ?_
                refine ev_sub [2, 3, 1, 0] rfl ?_
                exact h
theorem BX10_findGridSigns_136 {N : Nat} {σ : Sg} {Q : Option Value → Sg → Prop} {x1 : Int32} (h : ((σ.1 245 15) ≤ x1 → Q none σ) ∧ (¬ (σ.1 245 15) ≤ x1 → KX10_findGridSigns_146 N σ Q x1 0)) : KX10_findGridSigns_136 N σ Q x1 := by
  refine ev_iload_n 1 dX10_findGridSigns_136 rfl ?_
  refine ev_aload_n 0 dX10_findGridSigns_137 rfl ?_
  refine ev_get G10 lay_245 (k := 15) rfl (Nat.le_of_ble_eq_true rfl) dX10_findGridSigns_138 w_1241 ?_
  refine ev_icmp_ge 202 dX10_findGridSigns_141 (by decide) (fun c9 => ?_) (fun c9 => ?_)
  · replace h := h.1 c9
    exact ev_vret rfl dX10_findGridSigns_202 h
  · replace h := h.2 c9
    refine ev_iconst 0 dX10_findGridSigns_144 (by decide) ?_
    refine ev_istore_n (lv' := [(2, .int 0), (0, .ref 245), (1, .int x1)]) dX10_findGridSigns_145 (Nat.le_of_ble_eq_true rfl) rfl ?_
    refine ev_sub [1, 2, 0] rfl ?_
    exact h
theorem BX10_findGridSigns_146 {N : Nat} {σ : Sg} {Q : Option Value → Sg → Prop} {x1 : Int32} {x2 : Int32} (h : ((σ.1 245 15) ≤ x2 → KX10_findGridSigns_136 N σ Q (x1 + 1)) ∧ (¬ (σ.1 245 15) ≤ x2 → (x1 = x2 → vp_in ((8 * x1) + x2) 64 ∧ (KX10_findGridSigns_146 N (u1 σ 258 ((8 * x1) + x2).toNatClampNeg 0) Q x1 (x2 + 1))) ∧ (¬ x1 = x2 → vp_in x1 8 ∧ (vp_in x2 8 ∧ (EvM (N + 4) mX10_apartOf [.ref 245, .int (σ.1 257 (x1).toNatClampNeg), .int (σ.1 257 (x2).toNatClampNeg)] σ (fun r9 σ3 => ∃ v3, r9 = some (.int v3) ∧ (vp_in ((8 * x1) + x2) 64 ∧ (KX10_findGridSigns_146 N (u1 σ3 258 ((8 * x1) + x2).toNatClampNeg v3) Q x1 (x2 + 1))))))))) : KX10_findGridSigns_146 N σ Q x1 x2 := by
  refine ev_iload_n 2 dX10_findGridSigns_146 rfl ?_
  refine ev_aload_n 0 dX10_findGridSigns_147 rfl ?_
  refine ev_get G10 lay_245 (k := 15) rfl (Nat.le_of_ble_eq_true rfl) dX10_findGridSigns_148 w_1241 ?_
  refine ev_icmp_ge 196 dX10_findGridSigns_151 (by decide) (fun c9 => ?_) (fun c9 => ?_)
  · replace h := h.1 c9
    refine ev_iinc (lv' := [(1, .int (x1 + 1)), (0, .ref 245), (2, .int x2)]) (x1 + 1) 1 dX10_findGridSigns_196 rfl rfl (Nat.le_of_ble_eq_true rfl) rfl ?_
    refine ev_goto 136 dX10_findGridSigns_199 (by decide) ?_
    refine ev_sub [1, 0] rfl ?_
    exact h
  · replace h := h.2 c9
    refine ev_aload_n 0 dX10_findGridSigns_154 rfl ?_
    refine ev_getR (r := 258) G10 lay_245 (k := 17) rfl (Nat.le_of_ble_eq_true rfl) dX10_findGridSigns_155 w_1243 ?_
    refine ev_bipush 8 dX10_findGridSigns_158 (by decide) ?_
    refine ev_iload_n 1 dX10_findGridSigns_160 rfl ?_
    refine ev_imul dX10_findGridSigns_161 ?_
    refine ev_iload_n 2 dX10_findGridSigns_162 rfl ?_
    refine ev_iadd dX10_findGridSigns_163 ?_
    refine ev_iload_n 1 dX10_findGridSigns_164 rfl ?_
    refine ev_iload_n 2 dX10_findGridSigns_165 rfl ?_
    refine ev_icmp_ne 173 dX10_findGridSigns_166 (by decide) (fun c9 => ?_) (fun c9 => ?_)
    · replace h := h.2 c9
      refine ev_aload_n 0 dX10_findGridSigns_173 rfl ?_
      refine ev_aload_n 0 dX10_findGridSigns_174 rfl ?_
      refine ev_getR (r := 257) G10 lay_245 (k := 16) rfl (Nat.le_of_ble_eq_true rfl) dX10_findGridSigns_175 w_1242 ?_
      refine ev_iload_n 1 dX10_findGridSigns_178 rfl ?_
      have hb179 := h.1
      replace h := h.2
      refine ev_iald lay_257 (Nat.le_of_ble_eq_true rfl) hb179 dX10_findGridSigns_179 ?_
      refine ev_aload_n 0 dX10_findGridSigns_180 rfl ?_
      refine ev_getR (r := 257) G10 lay_245 (k := 16) rfl (Nat.le_of_ble_eq_true rfl) dX10_findGridSigns_181 w_1242 ?_
      refine ev_iload_n 2 dX10_findGridSigns_184 rfl ?_
      have hb185 := h.1
      replace h := h.2
      refine ev_iald lay_257 (Nat.le_of_ble_eq_true rfl) hb185 dX10_findGridSigns_185 ?_
      refine ev_callV (M' := mX10_apartOf) [.int (σ.1 257 (x1).toNatClampNeg), .int (σ.1 257 (x2).toNatClampNeg)] vX10_apartOf G10 lay_245 dX10_findGridSigns_186 w_1550 rfl rfl (Nat.le_of_ble_eq_true rfl) h ?_
      rintro r9 σ3 ⟨v3, rfl, h⟩
      have hb189 := h.1
      replace h := h.2
      refine ev_iast lay_258 (Nat.le_of_ble_eq_true rfl) hb189 dX10_findGridSigns_189 ?_
      refine ev_iinc (lv' := [(2, .int (x2 + 1)), (0, .ref 245), (1, .int x1)]) (x2 + 1) 2 dX10_findGridSigns_190 rfl rfl (Nat.le_of_ble_eq_true rfl) rfl ?_
      refine ev_goto 146 dX10_findGridSigns_193 (by decide) ?_
      refine ev_sub [1, 2, 0] rfl ?_
      exact h
    · replace h := h.1 c9
      refine ev_iconst 0 dX10_findGridSigns_169 (by decide) ?_
      refine ev_goto 189 dX10_findGridSigns_170 (by decide) ?_
      have hb189 := h.1
      replace h := h.2
      refine ev_iast lay_258 (Nat.le_of_ble_eq_true rfl) hb189 dX10_findGridSigns_189 ?_
      refine ev_iinc (lv' := [(2, .int (x2 + 1)), (0, .ref 245), (1, .int x1)]) (x2 + 1) 2 dX10_findGridSigns_190 rfl rfl (Nat.le_of_ble_eq_true rfl) rfl ?_
      refine ev_goto 146 dX10_findGridSigns_193 (by decide) ?_
      refine ev_sub [1, 2, 0] rfl ?_
      exact h
abbrev KX10_quarrel_4 (N : Nat) (σ : Sg) (Q : Option Value → Sg → Prop) (x1 : Int32) (x2 : Int32) : Prop := Ev N mX10_quarrel 4 [(0, .ref 245), (1, .int x1), (2, .int x2)] [] σ Q
abbrev KX10_quarrel_14 (N : Nat) (σ : Sg) (Q : Option Value → Sg → Prop) (x1 : Int32) (x2 : Int32) (x3 : Int32) : Prop := Ev N mX10_quarrel 14 [(0, .ref 245), (1, .int x1), (2, .int x2), (3, .int x3)] [] σ Q
theorem EX10_quarrel {N : Nat} {σ : Sg} {Q : Option Value → Sg → Prop} (h : KX10_quarrel_4 N σ Q 0 0) : EvM N mX10_quarrel [.ref 245] σ Q := by
  refine ev_entry rfl (Nat.le_of_ble_eq_true rfl) (lv := [(0, .ref 245)]) rfl ?_
  refine ev_iconst 0 dX10_quarrel_0 (by decide) ?_
  refine ev_istore_n (lv' := [(1, .int 0), (0, .ref 245)]) dX10_quarrel_1 (Nat.le_of_ble_eq_true rfl) rfl ?_
  refine ev_iconst 0 dX10_quarrel_2 (by decide) ?_
  refine ev_istore_n (lv' := [(2, .int 0), (1, .int 0), (0, .ref 245)]) dX10_quarrel_3 (Nat.le_of_ble_eq_true rfl) rfl ?_
  refine ev_sub [2, 1, 0] rfl ?_
  exact h
theorem BX10_quarrel_4 {N : Nat} {σ : Sg} {Q : Option Value → Sg → Prop} {x1 : Int32} {x2 : Int32} (h : ((σ.1 245 15) ≤ x2 → Q (some (.int x1)) σ) ∧ (¬ (σ.1 245 15) ≤ x2 → KX10_quarrel_14 N σ Q x1 x2 0)) : KX10_quarrel_4 N σ Q x1 x2 := by
  refine ev_iload_n 2 dX10_quarrel_4 rfl ?_
  refine ev_aload_n 0 dX10_quarrel_5 rfl ?_
  refine ev_get G10 lay_245 (k := 15) rfl (Nat.le_of_ble_eq_true rfl) dX10_quarrel_6 w_1241 ?_
  refine ev_icmp_ge 84 dX10_quarrel_9 (by decide) (fun c9 => ?_) (fun c9 => ?_)
  · replace h := h.1 c9
    refine ev_iload_n 1 dX10_quarrel_84 rfl ?_
    exact ev_iret rfl dX10_quarrel_85 h
  · replace h := h.2 c9
    refine ev_iconst 0 dX10_quarrel_12 (by decide) ?_
    refine ev_istore_n (lv' := [(3, .int 0), (0, .ref 245), (1, .int x1), (2, .int x2)]) dX10_quarrel_13 (Nat.le_of_ble_eq_true rfl) rfl ?_
    refine ev_sub [1, 2, 3, 0] rfl ?_
    exact h
theorem BX10_quarrel_14 {N : Nat} {σ : Sg} {Q : Option Value → Sg → Prop} {x1 : Int32} {x2 : Int32} {x3 : Int32} (h : (x2 ≤ x3 → KX10_quarrel_4 N σ Q x1 (x2 + 1)) ∧ (¬ x2 ≤ x3 → vp_in x2 8 ∧ (vp_in x3 8 ∧ (((σ.1 259 (x2).toNatClampNeg) = (σ.1 259 (x3).toNatClampNeg) → vp_in ((8 * x2) + x3) 64 ∧ (KX10_quarrel_14 N σ Q (x1 + (σ.1 258 ((8 * x2) + x3).toNatClampNeg)) x2 (x3 + 1))) ∧ (¬ (σ.1 259 (x2).toNatClampNeg) = (σ.1 259 (x3).toNatClampNeg) → vp_in x2 8 ∧ (vp_in x3 8 ∧ (vp_in ((24 * (σ.1 257 (x2).toNatClampNeg)) + (σ.1 257 (x3).toNatClampNeg)) 576 ∧ (KX10_quarrel_14 N σ Q (x1 + (σ.1 256 ((24 * (σ.1 257 (x2).toNatClampNeg)) + (σ.1 257 (x3).toNatClampNeg)).toNatClampNeg)) x2 (x3 + 1))))))))) : KX10_quarrel_14 N σ Q x1 x2 x3 := by
  refine ev_iload_n 3 dX10_quarrel_14 rfl ?_
  refine ev_iload_n 2 dX10_quarrel_15 rfl ?_
  refine ev_icmp_ge 78 dX10_quarrel_16 (by decide) (fun c9 => ?_) (fun c9 => ?_)
  · replace h := h.1 c9
    refine ev_iinc (lv' := [(2, .int (x2 + 1)), (0, .ref 245), (1, .int x1), (3, .int x3)]) (x2 + 1) 2 dX10_quarrel_78 rfl rfl (Nat.le_of_ble_eq_true rfl) rfl ?_
    refine ev_goto 4 dX10_quarrel_81 (by decide) ?_
    refine ev_sub [1, 2, 0] rfl ?_
    exact h
  · replace h := h.2 c9
    refine ev_iload_n 1 dX10_quarrel_19 rfl ?_
    refine ev_aload_n 0 dX10_quarrel_20 rfl ?_
    refine ev_getR (r := 259) G10 lay_245 (k := 18) rfl (Nat.le_of_ble_eq_true rfl) dX10_quarrel_21 w_1244 ?_
    refine ev_iload_n 2 dX10_quarrel_24 rfl ?_
    have hb25 := h.1
    replace h := h.2
    refine ev_iald lay_259 (Nat.le_of_ble_eq_true rfl) hb25 dX10_quarrel_25 ?_
    refine ev_aload_n 0 dX10_quarrel_26 rfl ?_
    refine ev_getR (r := 259) G10 lay_245 (k := 18) rfl (Nat.le_of_ble_eq_true rfl) dX10_quarrel_27 w_1244 ?_
    refine ev_iload_n 3 dX10_quarrel_30 rfl ?_
    have hb31 := h.1
    replace h := h.2
    refine ev_iald lay_259 (Nat.le_of_ble_eq_true rfl) hb31 dX10_quarrel_31 ?_
    refine ev_icmp_ne 49 dX10_quarrel_32 (by decide) (fun c9 => ?_) (fun c9 => ?_)
    · replace h := h.2 c9
      refine ev_aload_n 0 dX10_quarrel_49 rfl ?_
      refine ev_getR (r := 256) G10 lay_245 (k := 14) rfl (Nat.le_of_ble_eq_true rfl) dX10_quarrel_50 w_1240 ?_
      refine ev_bipush 24 dX10_quarrel_53 (by decide) ?_
      refine ev_aload_n 0 dX10_quarrel_55 rfl ?_
      refine ev_getR (r := 257) G10 lay_245 (k := 16) rfl (Nat.le_of_ble_eq_true rfl) dX10_quarrel_56 w_1242 ?_
      refine ev_iload_n 2 dX10_quarrel_59 rfl ?_
      have hb60 := h.1
      replace h := h.2
      refine ev_iald lay_257 (Nat.le_of_ble_eq_true rfl) hb60 dX10_quarrel_60 ?_
      refine ev_imul dX10_quarrel_61 ?_
      refine ev_aload_n 0 dX10_quarrel_62 rfl ?_
      refine ev_getR (r := 257) G10 lay_245 (k := 16) rfl (Nat.le_of_ble_eq_true rfl) dX10_quarrel_63 w_1242 ?_
      refine ev_iload_n 3 dX10_quarrel_66 rfl ?_
      have hb67 := h.1
      replace h := h.2
      refine ev_iald lay_257 (Nat.le_of_ble_eq_true rfl) hb67 dX10_quarrel_67 ?_
      refine ev_iadd dX10_quarrel_68 ?_
      have hb69 := h.1
      replace h := h.2
      refine ev_iald lay_256 (Nat.le_of_ble_eq_true rfl) hb69 dX10_quarrel_69 ?_
      refine ev_iadd dX10_quarrel_70 ?_
      refine ev_istore_n (lv' := [(1, .int (x1 + (σ.1 256 ((24 * (σ.1 257 (x2).toNatClampNeg)) + (σ.1 257 (x3).toNatClampNeg)).toNatClampNeg))), (0, .ref 245), (2, .int x2), (3, .int x3)]) dX10_quarrel_71 (Nat.le_of_ble_eq_true rfl) rfl ?_
      refine ev_iinc (lv' := [(3, .int (x3 + 1)), (1, .int (x1 + (σ.1 256 ((24 * (σ.1 257 (x2).toNatClampNeg)) + (σ.1 257 (x3).toNatClampNeg)).toNatClampNeg))), (0, .ref 245), (2, .int x2)]) (x3 + 1) 3 dX10_quarrel_72 rfl rfl (Nat.le_of_ble_eq_true rfl) rfl ?_
      refine ev_goto 14 dX10_quarrel_75 (by decide) ?_
      refine ev_sub [2, 1, 3, 0] rfl ?_
      exact h
    · replace h := h.1 c9
      refine ev_aload_n 0 dX10_quarrel_35 rfl ?_
      refine ev_getR (r := 258) G10 lay_245 (k := 17) rfl (Nat.le_of_ble_eq_true rfl) dX10_quarrel_36 w_1243 ?_
      refine ev_bipush 8 dX10_quarrel_39 (by decide) ?_
      refine ev_iload_n 2 dX10_quarrel_41 rfl ?_
      refine ev_imul dX10_quarrel_42 ?_
      refine ev_iload_n 3 dX10_quarrel_43 rfl ?_
      refine ev_iadd dX10_quarrel_44 ?_
      have hb45 := h.1
      replace h := h.2
      refine ev_iald lay_258 (Nat.le_of_ble_eq_true rfl) hb45 dX10_quarrel_45 ?_
      refine ev_goto 70 dX10_quarrel_46 (by decide) ?_
      refine ev_iadd dX10_quarrel_70 ?_
      refine ev_istore_n (lv' := [(1, .int (x1 + (σ.1 258 ((8 * x2) + x3).toNatClampNeg))), (0, .ref 245), (2, .int x2), (3, .int x3)]) dX10_quarrel_71 (Nat.le_of_ble_eq_true rfl) rfl ?_
      refine ev_iinc (lv' := [(3, .int (x3 + 1)), (1, .int (x1 + (σ.1 258 ((8 * x2) + x3).toNatClampNeg))), (0, .ref 245), (2, .int x2)]) (x3 + 1) 3 dX10_quarrel_72 rfl rfl (Nat.le_of_ble_eq_true rfl) rfl ?_
      refine ev_goto 14 dX10_quarrel_75 (by decide) ?_
      refine ev_sub [2, 1, 3, 0] rfl ?_
      exact h
abbrev KX10_findGrid_6 (N : Nat) (σ : Sg) (Q : Option Value → Sg → Prop) (x1 : Int32) (x2 : Int32) : Prop := Ev (N + 6) mX10_findGrid 6 [(0, .ref 245), (1, .int x1), (2, .int x2)] [] σ Q
abbrev KX10_findGrid_29 (N : Nat) (σ : Sg) (Q : Option Value → Sg → Prop) (x1 : Int32) (x2 : Int32) (x3 : Int32) : Prop := Ev (N + 6) mX10_findGrid 29 [(0, .ref 245), (1, .int x1), (2, .int x2), (3, .int x3)] [] σ Q
abbrev KX10_findGrid_55 (N : Nat) (σ : Sg) (Q : Option Value → Sg → Prop) (x1 : Int32) (x2 : Int32) (x5 : Int32) : Prop := Ev (N + 6) mX10_findGrid 55 [(0, .ref 245), (1, .int x1), (2, .int x2), (5, .int x5)] [] σ Q
abbrev KX10_findGrid_90 (N : Nat) (σ : Sg) (Q : Option Value → Sg → Prop) (x1 : Int32) (x2 : Int32) (x5 : Int32) : Prop := Ev (N + 6) mX10_findGrid 90 [(0, .ref 245), (1, .int x1), (2, .int x2), (5, .int x5)] [] σ Q
theorem EX10_findGrid {N : Nat} {σ : Sg} {Q : Option Value → Sg → Prop} {x1 : Int32} (h : EvM (N + 5) mX10_findGridSigns [.ref 245] σ (fun r9 σ1 => r9 = none ∧ (KX10_findGrid_6 N σ1 Q x1 0))) : EvM (N + 6) mX10_findGrid [.ref 245, .int x1] σ Q := by
  refine ev_entry rfl (Nat.le_of_ble_eq_true rfl) (lv := [(0, .ref 245), (1, .int x1)]) rfl ?_
  refine ev_aload_n 0 dX10_findGrid_0 rfl ?_
  refine ev_callV (M' := mX10_findGridSigns) [] vX10_findGridSigns G10 lay_245 dX10_findGrid_1 w_1546 rfl rfl (Nat.le_of_ble_eq_true rfl) h ?_
  rintro r9 σ1 ⟨rfl, h⟩
  refine ev_iconst 0 dX10_findGrid_4 (by decide) ?_
  refine ev_istore_n (lv' := [(2, .int 0), (0, .ref 245), (1, .int x1)]) dX10_findGrid_5 (Nat.le_of_ble_eq_true rfl) rfl ?_
  refine ev_sub [1, 2, 0] rfl ?_
  exact h
theorem BX10_findGrid_6 {N : Nat} {σ : Sg} {Q : Option Value → Sg → Prop} {x1 : Int32} {x2 : Int32} (h : (8 ≤ x2 → KX10_findGrid_29 N σ Q x1 (-1) 1) ∧ (¬ 8 ≤ x2 → vp_in x2 8 ∧ (KX10_findGrid_6 N (u1 σ 259 (x2).toNatClampNeg 0) Q x1 (x2 + 1)))) : KX10_findGrid_6 N σ Q x1 x2 := by
  refine ev_iload_n 2 dX10_findGrid_6 rfl ?_
  refine ev_bipush 8 dX10_findGrid_7 (by decide) ?_
  refine ev_icmp_ge 25 dX10_findGrid_9 (by decide) (fun c9 => ?_) (fun c9 => ?_)
  · replace h := h.1 c9
    refine ev_iconst (-1) dX10_findGrid_25 (by decide) ?_
    refine ev_istore_n (lv' := [(2, .int (-1)), (0, .ref 245), (1, .int x1)]) dX10_findGrid_26 (Nat.le_of_ble_eq_true rfl) rfl ?_
    refine ev_iconst 1 dX10_findGrid_27 (by decide) ?_
    refine ev_istore_n (lv' := [(3, .int 1), (2, .int (-1)), (0, .ref 245), (1, .int x1)]) dX10_findGrid_28 (Nat.le_of_ble_eq_true rfl) rfl ?_
    refine ev_sub [2, 3, 1, 0] rfl ?_
    exact h
  · replace h := h.2 c9
    refine ev_aload_n 0 dX10_findGrid_12 rfl ?_
    refine ev_getR (r := 259) G10 lay_245 (k := 18) rfl (Nat.le_of_ble_eq_true rfl) dX10_findGrid_13 w_1244 ?_
    refine ev_iload_n 2 dX10_findGrid_16 rfl ?_
    refine ev_iconst 0 dX10_findGrid_17 (by decide) ?_
    have hb18 := h.1
    replace h := h.2
    refine ev_iast lay_259 (Nat.le_of_ble_eq_true rfl) hb18 dX10_findGrid_18 ?_
    refine ev_iinc (lv' := [(2, .int (x2 + 1)), (0, .ref 245), (1, .int x1)]) (x2 + 1) 2 dX10_findGrid_19 rfl rfl (Nat.le_of_ble_eq_true rfl) rfl ?_
    refine ev_goto 6 dX10_findGrid_22 (by decide) ?_
    refine ev_sub [1, 2, 0] rfl ?_
    exact h
theorem BX10_findGrid_29 {N : Nat} {σ : Sg} {Q : Option Value → Sg → Prop} {x1 : Int32} {x2 : Int32} {x3 : Int32} (h : (x3 = 0 → Q (some (.int x2)) σ) ∧ (¬ x3 = 0 → EvM (N + 5) mX10_quarrel [.ref 245] σ (fun r9 σ2 => ∃ v2, r9 = some (.int v2) ∧ ((x2 < 0 → KX10_findGrid_55 N σ2 Q x1 v2 0) ∧ (¬ x2 < 0 → (x2 ≤ v2 → KX10_findGrid_90 N σ2 Q x1 x2 ((σ2.1 245 15) - 1)) ∧ (¬ x2 ≤ v2 → KX10_findGrid_55 N σ2 Q x1 v2 0)))))) : KX10_findGrid_29 N σ Q x1 x2 x3 := by
  refine ev_iload_n 3 dX10_findGrid_29 rfl ?_
  refine ev_if_eq 151 dX10_findGrid_30 (by decide) (fun c9 => ?_) (fun c9 => ?_)
  · replace h := h.1 c9
    refine ev_iload_n 2 dX10_findGrid_151 rfl ?_
    exact ev_iret rfl dX10_findGrid_152 h
  · replace h := h.2 c9
    refine ev_aload_n 0 dX10_findGrid_33 rfl ?_
    refine ev_callV (M' := mX10_quarrel) [] vX10_quarrel G10 lay_245 dX10_findGrid_34 w_1554 rfl rfl (Nat.le_of_ble_eq_true rfl) h ?_
    rintro r9 σ2 ⟨v2, rfl, h⟩
    refine ev_istore (lv' := [(4, .int v2), (0, .ref 245), (1, .int x1), (2, .int x2), (3, .int x3)]) dX10_findGrid_37 (Nat.le_of_ble_eq_true rfl) rfl ?_
    refine ev_iload_n 3 dX10_findGrid_39 rfl ?_
    refine ev_if_lt 49 dX10_findGrid_40 (by decide) (fun c9 => ?_) (fun c9 => ?_)
    · replace h := h.1 c9
      refine ev_iload 0 dX10_findGrid_49 rfl ?_
      refine ev_istore_n (lv' := [(2, .int v2), (4, .int v2), (0, .ref 245), (1, .int x1), (3, .int x3)]) dX10_findGrid_51 (Nat.le_of_ble_eq_true rfl) rfl ?_
      refine ev_iconst 0 dX10_findGrid_52 (by decide) ?_
      refine ev_istore (lv' := [(5, .int 0), (2, .int v2), (4, .int v2), (0, .ref 245), (1, .int x1), (3, .int x3)]) dX10_findGrid_53 (Nat.le_of_ble_eq_true rfl) rfl ?_
      refine ev_sub [3, 4, 1, 0] rfl ?_
      exact h
    · replace h := h.2 c9
      refine ev_iload 0 dX10_findGrid_43 rfl ?_
      refine ev_iload_n 3 dX10_findGrid_45 rfl ?_
      refine ev_icmp_ge 82 dX10_findGrid_46 (by decide) (fun c9 => ?_) (fun c9 => ?_)
      · replace h := h.1 c9
        refine ev_aload_n 1 dX10_findGrid_82 rfl ?_
        refine ev_get G10 lay_245 (k := 15) rfl (Nat.le_of_ble_eq_true rfl) dX10_findGrid_83 w_1241 ?_
        refine ev_iconst 1 dX10_findGrid_86 (by decide) ?_
        refine ev_isub dX10_findGrid_87 ?_
        refine ev_istore (lv' := [(5, .int ((σ2.1 245 15) - 1)), (4, .int v2), (0, .ref 245), (1, .int x1), (2, .int x2), (3, .int x3)]) dX10_findGrid_88 (Nat.le_of_ble_eq_true rfl) rfl ?_
        refine ev_sub [2, 3, 4, 0] rfl ?_
        exact h
      · replace h := h.2 c9
        refine ev_iload 0 dX10_findGrid_49 rfl ?_
        refine ev_istore_n (lv' := [(2, .int v2), (4, .int v2), (0, .ref 245), (1, .int x1), (3, .int x3)]) dX10_findGrid_51 (Nat.le_of_ble_eq_true rfl) rfl ?_
        refine ev_iconst 0 dX10_findGrid_52 (by decide) ?_
        refine ev_istore (lv' := [(5, .int 0), (2, .int v2), (4, .int v2), (0, .ref 245), (1, .int x1), (3, .int x3)]) dX10_findGrid_53 (Nat.le_of_ble_eq_true rfl) rfl ?_
        refine ev_sub [3, 4, 1, 0] rfl ?_
        exact h
theorem BX10_findGrid_55 {N : Nat} {σ : Sg} {Q : Option Value → Sg → Prop} {x1 : Int32} {x2 : Int32} {x5 : Int32} (h : (8 ≤ x5 → KX10_findGrid_90 N σ Q x1 x2 ((σ.1 245 15) - 1)) ∧ (¬ 8 ≤ x5 → vp_in x5 8 ∧ (vp_in x5 8 ∧ (KX10_findGrid_55 N (u1 σ 260 (x5).toNatClampNeg (σ.1 259 (x5).toNatClampNeg)) Q x1 x2 (x5 + 1))))) : KX10_findGrid_55 N σ Q x1 x2 x5 := by
  refine ev_iload 3 dX10_findGrid_55 rfl ?_
  refine ev_bipush 8 dX10_findGrid_57 (by decide) ?_
  refine ev_icmp_ge 82 dX10_findGrid_59 (by decide) (fun c9 => ?_) (fun c9 => ?_)
  · replace h := h.1 c9
    refine ev_aload_n 0 dX10_findGrid_82 rfl ?_
    refine ev_get G10 lay_245 (k := 15) rfl (Nat.le_of_ble_eq_true rfl) dX10_findGrid_83 w_1241 ?_
    refine ev_iconst 1 dX10_findGrid_86 (by decide) ?_
    refine ev_isub dX10_findGrid_87 ?_
    refine ev_istore (lv' := [(5, .int ((σ.1 245 15) - 1)), (0, .ref 245), (1, .int x1), (2, .int x2)]) dX10_findGrid_88 (Nat.le_of_ble_eq_true rfl) rfl ?_
    refine ev_sub [1, 2, 3, 0] rfl ?_
    exact h
  · replace h := h.2 c9
    refine ev_aload_n 0 dX10_findGrid_62 rfl ?_
    refine ev_getR (r := 260) G10 lay_245 (k := 19) rfl (Nat.le_of_ble_eq_true rfl) dX10_findGrid_63 w_1245 ?_
    refine ev_iload 3 dX10_findGrid_66 rfl ?_
    refine ev_aload_n 0 dX10_findGrid_68 rfl ?_
    refine ev_getR (r := 259) G10 lay_245 (k := 18) rfl (Nat.le_of_ble_eq_true rfl) dX10_findGrid_69 w_1244 ?_
    refine ev_iload 3 dX10_findGrid_72 rfl ?_
    have hb74 := h.1
    replace h := h.2
    refine ev_iald lay_259 (Nat.le_of_ble_eq_true rfl) hb74 dX10_findGrid_74 ?_
    have hb75 := h.1
    replace h := h.2
    refine ev_iast lay_260 (Nat.le_of_ble_eq_true rfl) hb75 dX10_findGrid_75 ?_
    refine ev_iinc (lv' := [(5, .int (x5 + 1)), (0, .ref 245), (1, .int x1), (2, .int x2)]) (x5 + 1) 3 dX10_findGrid_76 rfl rfl (Nat.le_of_ble_eq_true rfl) rfl ?_
    refine ev_goto 55 dX10_findGrid_79 (by decide) ?_
    refine ev_sub [1, 2, 3, 0] rfl ?_
    exact h
theorem BX10_findGrid_90 {N : Nat} {σ : Sg} {Q : Option Value → Sg → Prop} {x1 : Int32} {x2 : Int32} {x5 : Int32} (h : (x5 < 0 → (x5 < 0 → KX10_findGrid_29 N σ Q x1 x2 0) ∧ (¬ x5 < 0 → vp_in x5 8 ∧ (vp_in x5 8 ∧ (KX10_findGrid_29 N (u1 σ 259 (x5).toNatClampNeg ((σ.1 259 (x5).toNatClampNeg) + 1)) Q x1 x2 1)))) ∧ (¬ x5 < 0 → vp_in x5 8 ∧ (((σ.1 259 (x5).toNatClampNeg) = (x1 - 1) → vp_in x5 8 ∧ (KX10_findGrid_90 N (u1 σ 259 (x5).toNatClampNeg 0) Q x1 x2 (x5 + (-1)))) ∧ (¬ (σ.1 259 (x5).toNatClampNeg) = (x1 - 1) → (x5 < 0 → KX10_findGrid_29 N σ Q x1 x2 0) ∧ (¬ x5 < 0 → vp_in x5 8 ∧ (vp_in x5 8 ∧ (KX10_findGrid_29 N (u1 σ 259 (x5).toNatClampNeg ((σ.1 259 (x5).toNatClampNeg) + 1)) Q x1 x2 1))))))) : KX10_findGrid_90 N σ Q x1 x2 x5 := by
  refine ev_iload 3 dX10_findGrid_90 rfl ?_
  refine ev_if_lt 122 dX10_findGrid_92 (by decide) (fun c9 => ?_) (fun c9 => ?_)
  · replace h := h.1 c9
    refine ev_iload 3 dX10_findGrid_122 rfl ?_
    refine ev_if_lt 131 dX10_findGrid_124 (by decide) (fun c9 => ?_) (fun c9 => ?_)
    · replace h := h.1 c9
      refine ev_iconst 0 dX10_findGrid_131 (by decide) ?_
      refine ev_istore_n (lv' := [(3, .int 0), (0, .ref 245), (1, .int x1), (2, .int x2), (5, .int x5)]) dX10_findGrid_132 (Nat.le_of_ble_eq_true rfl) rfl ?_
      refine ev_iload_n 0 dX10_findGrid_133 rfl ?_
      refine ev_if_eq 148 dX10_findGrid_134 (by decide) (fun c9 => ?_) (fun c9 => ?_)
      · refine ev_goto 29 dX10_findGrid_148 (by decide) ?_
        refine ev_sub [1, 2, 3, 0] rfl ?_
        exact h
      · exact absurd c9 (by decide)
    · replace h := h.2 c9
      refine ev_iconst 1 dX10_findGrid_127 (by decide) ?_
      refine ev_goto 132 dX10_findGrid_128 (by decide) ?_
      refine ev_istore_n (lv' := [(3, .int 1), (0, .ref 245), (1, .int x1), (2, .int x2), (5, .int x5)]) dX10_findGrid_132 (Nat.le_of_ble_eq_true rfl) rfl ?_
      refine ev_iload_n 0 dX10_findGrid_133 rfl ?_
      refine ev_if_eq 148 dX10_findGrid_134 (by decide) (fun c9 => ?_) (fun c9 => ?_)
      · exact absurd c9 (by decide)
      · refine ev_aload_n 1 dX10_findGrid_137 rfl ?_
        refine ev_getR (r := 259) G10 lay_245 (k := 18) rfl (Nat.le_of_ble_eq_true rfl) dX10_findGrid_138 w_1244 ?_
        refine ev_iload 4 dX10_findGrid_141 rfl ?_
        refine ev_dup2 dX10_findGrid_143 rfl rfl ?_
        have hb144 := h.1
        replace h := h.2
        refine ev_iald lay_259 (Nat.le_of_ble_eq_true rfl) hb144 dX10_findGrid_144 ?_
        refine ev_iconst 1 dX10_findGrid_145 (by decide) ?_
        refine ev_iadd dX10_findGrid_146 ?_
        have hb147 := h.1
        replace h := h.2
        refine ev_iast lay_259 (Nat.le_of_ble_eq_true rfl) hb147 dX10_findGrid_147 ?_
        refine ev_goto 29 dX10_findGrid_148 (by decide) ?_
        refine ev_sub [1, 2, 3, 0] rfl ?_
        exact h
  · replace h := h.2 c9
    refine ev_aload_n 0 dX10_findGrid_95 rfl ?_
    refine ev_getR (r := 259) G10 lay_245 (k := 18) rfl (Nat.le_of_ble_eq_true rfl) dX10_findGrid_96 w_1244 ?_
    refine ev_iload 3 dX10_findGrid_99 rfl ?_
    have hb101 := h.1
    replace h := h.2
    refine ev_iald lay_259 (Nat.le_of_ble_eq_true rfl) hb101 dX10_findGrid_101 ?_
    refine ev_iload_n 1 dX10_findGrid_102 rfl ?_
    refine ev_iconst 1 dX10_findGrid_103 (by decide) ?_
    refine ev_isub dX10_findGrid_104 ?_
    refine ev_icmp_ne 122 dX10_findGrid_105 (by decide) (fun c9 => ?_) (fun c9 => ?_)
    · replace h := h.2 c9
      refine ev_iload 3 dX10_findGrid_122 rfl ?_
      refine ev_if_lt 131 dX10_findGrid_124 (by decide) (fun c9 => ?_) (fun c9 => ?_)
      · replace h := h.1 c9
        refine ev_iconst 0 dX10_findGrid_131 (by decide) ?_
        refine ev_istore_n (lv' := [(3, .int 0), (0, .ref 245), (1, .int x1), (2, .int x2), (5, .int x5)]) dX10_findGrid_132 (Nat.le_of_ble_eq_true rfl) rfl ?_
        refine ev_iload_n 0 dX10_findGrid_133 rfl ?_
        refine ev_if_eq 148 dX10_findGrid_134 (by decide) (fun c9 => ?_) (fun c9 => ?_)
        · refine ev_goto 29 dX10_findGrid_148 (by decide) ?_
          refine ev_sub [1, 2, 3, 0] rfl ?_
          exact h
        · exact absurd c9 (by decide)
      · replace h := h.2 c9
        refine ev_iconst 1 dX10_findGrid_127 (by decide) ?_
        refine ev_goto 132 dX10_findGrid_128 (by decide) ?_
        refine ev_istore_n (lv' := [(3, .int 1), (0, .ref 245), (1, .int x1), (2, .int x2), (5, .int x5)]) dX10_findGrid_132 (Nat.le_of_ble_eq_true rfl) rfl ?_
        refine ev_iload_n 0 dX10_findGrid_133 rfl ?_
        refine ev_if_eq 148 dX10_findGrid_134 (by decide) (fun c9 => ?_) (fun c9 => ?_)
        · exact absurd c9 (by decide)
        · refine ev_aload_n 1 dX10_findGrid_137 rfl ?_
          refine ev_getR (r := 259) G10 lay_245 (k := 18) rfl (Nat.le_of_ble_eq_true rfl) dX10_findGrid_138 w_1244 ?_
          refine ev_iload 4 dX10_findGrid_141 rfl ?_
          refine ev_dup2 dX10_findGrid_143 rfl rfl ?_
          have hb144 := h.1
          replace h := h.2
          refine ev_iald lay_259 (Nat.le_of_ble_eq_true rfl) hb144 dX10_findGrid_144 ?_
          refine ev_iconst 1 dX10_findGrid_145 (by decide) ?_
          refine ev_iadd dX10_findGrid_146 ?_
          have hb147 := h.1
          replace h := h.2
          refine ev_iast lay_259 (Nat.le_of_ble_eq_true rfl) hb147 dX10_findGrid_147 ?_
          refine ev_goto 29 dX10_findGrid_148 (by decide) ?_
          refine ev_sub [1, 2, 3, 0] rfl ?_
          exact h
    · replace h := h.1 c9
      refine ev_aload_n 0 dX10_findGrid_108 rfl ?_
      refine ev_getR (r := 259) G10 lay_245 (k := 18) rfl (Nat.le_of_ble_eq_true rfl) dX10_findGrid_109 w_1244 ?_
      refine ev_iload 3 dX10_findGrid_112 rfl ?_
      refine ev_iconst 0 dX10_findGrid_114 (by decide) ?_
      have hb115 := h.1
      replace h := h.2
      refine ev_iast lay_259 (Nat.le_of_ble_eq_true rfl) hb115 dX10_findGrid_115 ?_
      refine ev_iinc (lv' := [(5, .int (x5 + (-1))), (0, .ref 245), (1, .int x1), (2, .int x2)]) (x5 + (-1)) 3 dX10_findGrid_116 rfl rfl (Nat.le_of_ble_eq_true rfl) rfl ?_
      refine ev_goto 90 dX10_findGrid_119 (by decide) ?_
      refine ev_sub [1, 2, 3, 0] rfl ?_
      exact h
theorem EX10_grid {N : Nat} {σ : Sg} {Q : Option Value → Sg → Prop} {x1 : Int32} {x2 : Int32} (h : ((1 ≤ ((x1).toInt64).toInt ∧ ((x1).toInt64).toInt ≤ 3) → EvM (N + 6) mX10_findGrid [.ref 245, .int x1] σ (fun r9 σ1 => ∃ v1, r9 = some (.int v1) ∧ ((x2 = 0 → Q (some (.int v1)) σ1) ∧ (¬ x2 = 0 → (x2 = 1 → Q (some (.int (σ1.1 245 15))) σ1) ∧ (¬ x2 = 1 → ((10 ≤ ((x2).toInt64).toInt ∧ ((x2).toInt64).toInt ≤ ((9 + (σ1.1 245 15)).toInt64).toInt) → vp_in (x2 - 10) 8 ∧ (Q (some (.int (σ1.1 257 (x2 - 10).toNatClampNeg))) σ1)) ∧ (¬ (10 ≤ ((x2).toInt64).toInt ∧ ((x2).toInt64).toInt ≤ ((9 + (σ1.1 245 15)).toInt64).toInt) → ((30 ≤ ((x2).toInt64).toInt ∧ ((x2).toInt64).toInt ≤ ((29 + (σ1.1 245 15)).toInt64).toInt) → vp_in (x2 - 30) 8 ∧ (Q (some (.int (σ1.1 260 (x2 - 30).toNatClampNeg))) σ1)) ∧ (¬ (30 ≤ ((x2).toInt64).toInt ∧ ((x2).toInt64).toInt ≤ ((29 + (σ1.1 245 15)).toInt64).toInt) → Q (some (.int (-1))) σ1))))))) ∧ (¬ (1 ≤ ((x1).toInt64).toInt ∧ ((x1).toInt64).toInt ≤ 3) → Q (some (.int (-1))) σ)) : EvM (N + 7) mX10_grid [.ref 245, .int x1, .int x2] σ Q := by
  refine ev_entry rfl (Nat.le_of_ble_eq_true rfl) (lv := [(0, .ref 245), (1, .int x1), (2, .int x2)]) rfl ?_
  refine ev_iload_n 1 dX10_grid_0 rfl ?_
  refine ev_i2l dX10_grid_1 ?_
  refine ev_lconst 1 dX10_grid_2 (by decide) ?_
  refine ev_ldc2 3 dX10_grid_3 w_1448 ?_
  refine ev_callS (M' := mX10_in) [.long ((x1).toInt64), .long 1, .long 3] vX10_in dX10_grid_6 w_1421 rfl rfl (Nat.le_of_ble_eq_true rfl) (C10_in (P := 1 ≤ ((x1).toInt64).toInt ∧ ((x1).toInt64).toInt ≤ 3) (by (try simp only [i_l]); exact Iff.rfl) (Q := fun r9 s9 => σ = s9 ∧ ((r9 = some (.int 1) ∧ (1 ≤ ((x1).toInt64).toInt ∧ ((x1).toInt64).toInt ≤ 3)) ∨ (r9 = some (.int 0) ∧ ¬ (1 ≤ ((x1).toInt64).toInt ∧ ((x1).toInt64).toInt ≤ 3)))) ⟨fun c9 => ⟨rfl, Or.inl ⟨rfl, c9⟩⟩, fun c9 => ⟨rfl, Or.inr ⟨rfl, c9⟩⟩⟩) ?_
  rintro r9 s9 ⟨rfl, ⟨rfl, c9⟩ | ⟨rfl, c9⟩⟩
  · replace h := h.1 c9
    refine ev_if_ne 14 dX10_grid_9 (by decide) (fun c9 => ?_) (fun c9 => ?_)
    · refine ev_aload_n 0 dX10_grid_14 rfl ?_
      refine ev_iload_n 1 dX10_grid_15 rfl ?_
      refine ev_callV (M' := mX10_findGrid) [.int x1] vX10_findGrid G10 lay_245 dX10_grid_16 w_1542 rfl rfl (Nat.le_of_ble_eq_true rfl) h ?_
      rintro r9 σ1 ⟨v1, rfl, h⟩
      refine ev_istore_n (lv' := [(3, .int v1), (0, .ref 245), (1, .int x1), (2, .int x2)]) dX10_grid_19 (Nat.le_of_ble_eq_true rfl) rfl ?_
      refine ev_iload_n 3 dX10_grid_20 rfl ?_
      refine ev_if_ne 28 dX10_grid_21 (by decide) (fun c9 => ?_) (fun c9 => ?_)
      · replace h := h.2 c9
        refine ev_iload_n 3 dX10_grid_28 rfl ?_
        refine ev_iconst 1 dX10_grid_29 (by decide) ?_
        refine ev_icmp_ne 40 dX10_grid_30 (by decide) (fun c9 => ?_) (fun c9 => ?_)
        · replace h := h.2 c9
          refine ev_iload_n 3 dX10_grid_40 rfl ?_
          refine ev_i2l dX10_grid_41 ?_
          refine ev_ldc2 10 dX10_grid_42 w_1466 ?_
          refine ev_bipush 9 dX10_grid_45 (by decide) ?_
          refine ev_aload_n 1 dX10_grid_47 rfl ?_
          refine ev_get G10 lay_245 (k := 15) rfl (Nat.le_of_ble_eq_true rfl) dX10_grid_48 w_1241 ?_
          refine ev_iadd dX10_grid_51 ?_
          refine ev_i2l dX10_grid_52 ?_
          refine ev_callS (M' := mX10_in) [.long ((x2).toInt64), .long 10, .long ((9 + (σ1.1 245 15)).toInt64)] vX10_in dX10_grid_53 w_1421 rfl rfl (Nat.le_of_ble_eq_true rfl) (C10_in (P := 10 ≤ ((x2).toInt64).toInt ∧ ((x2).toInt64).toInt ≤ ((9 + (σ1.1 245 15)).toInt64).toInt) (by (try simp only [i_l]); exact Iff.rfl) (Q := fun r9 s9 => σ1 = s9 ∧ ((r9 = some (.int 1) ∧ (10 ≤ ((x2).toInt64).toInt ∧ ((x2).toInt64).toInt ≤ ((9 + (σ1.1 245 15)).toInt64).toInt)) ∨ (r9 = some (.int 0) ∧ ¬ (10 ≤ ((x2).toInt64).toInt ∧ ((x2).toInt64).toInt ≤ ((9 + (σ1.1 245 15)).toInt64).toInt)))) ⟨fun c9 => ⟨rfl, Or.inl ⟨rfl, c9⟩⟩, fun c9 => ⟨rfl, Or.inr ⟨rfl, c9⟩⟩⟩) ?_
          rintro r9 s9 ⟨rfl, ⟨rfl, c9⟩ | ⟨rfl, c9⟩⟩
          · replace h := h.1 c9
            refine ev_if_eq 71 dX10_grid_56 (by decide) (fun c9 => ?_) (fun c9 => ?_)
            · exact absurd c9 (by decide)
            · refine ev_aload_n 1 dX10_grid_59 rfl ?_
              refine ev_getR (r := 257) G10 lay_245 (k := 16) rfl (Nat.le_of_ble_eq_true rfl) dX10_grid_60 w_1242 ?_
              refine ev_iload_n 3 dX10_grid_63 rfl ?_
              refine ev_bipush 10 dX10_grid_64 (by decide) ?_
              refine ev_isub dX10_grid_66 ?_
              have hb67 := h.1
              replace h := h.2
              refine ev_iald lay_257 (Nat.le_of_ble_eq_true rfl) hb67 dX10_grid_67 ?_
              refine ev_goto 103 dX10_grid_68 (by decide) ?_
              exact ev_iret rfl dX10_grid_103 h
          · replace h := h.2 c9
            refine ev_if_eq 71 dX10_grid_56 (by decide) (fun c9 => ?_) (fun c9 => ?_)
            · refine ev_iload_n 3 dX10_grid_71 rfl ?_
              refine ev_i2l dX10_grid_72 ?_
              refine ev_ldc2 30 dX10_grid_73 w_1558 ?_
              refine ev_bipush 29 dX10_grid_76 (by decide) ?_
              refine ev_aload_n 1 dX10_grid_78 rfl ?_
              refine ev_get G10 lay_245 (k := 15) rfl (Nat.le_of_ble_eq_true rfl) dX10_grid_79 w_1241 ?_
              refine ev_iadd dX10_grid_82 ?_
              refine ev_i2l dX10_grid_83 ?_
              refine ev_callS (M' := mX10_in) [.long ((x2).toInt64), .long 30, .long ((29 + (σ1.1 245 15)).toInt64)] vX10_in dX10_grid_84 w_1421 rfl rfl (Nat.le_of_ble_eq_true rfl) (C10_in (P := 30 ≤ ((x2).toInt64).toInt ∧ ((x2).toInt64).toInt ≤ ((29 + (σ1.1 245 15)).toInt64).toInt) (by (try simp only [i_l]); exact Iff.rfl) (Q := fun r9 s9 => σ1 = s9 ∧ ((r9 = some (.int 1) ∧ (30 ≤ ((x2).toInt64).toInt ∧ ((x2).toInt64).toInt ≤ ((29 + (σ1.1 245 15)).toInt64).toInt)) ∨ (r9 = some (.int 0) ∧ ¬ (30 ≤ ((x2).toInt64).toInt ∧ ((x2).toInt64).toInt ≤ ((29 + (σ1.1 245 15)).toInt64).toInt)))) ⟨fun c9 => ⟨rfl, Or.inl ⟨rfl, c9⟩⟩, fun c9 => ⟨rfl, Or.inr ⟨rfl, c9⟩⟩⟩) ?_
              rintro r9 s9 ⟨rfl, ⟨rfl, c9⟩ | ⟨rfl, c9⟩⟩
              · replace h := h.1 c9
                refine ev_if_eq 102 dX10_grid_87 (by decide) (fun c9 => ?_) (fun c9 => ?_)
                · exact absurd c9 (by decide)
                · refine ev_aload_n 1 dX10_grid_90 rfl ?_
                  refine ev_getR (r := 260) G10 lay_245 (k := 19) rfl (Nat.le_of_ble_eq_true rfl) dX10_grid_91 w_1245 ?_
                  refine ev_iload_n 3 dX10_grid_94 rfl ?_
                  refine ev_bipush 30 dX10_grid_95 (by decide) ?_
                  refine ev_isub dX10_grid_97 ?_
                  have hb98 := h.1
                  replace h := h.2
                  refine ev_iald lay_260 (Nat.le_of_ble_eq_true rfl) hb98 dX10_grid_98 ?_
                  refine ev_goto 103 dX10_grid_99 (by decide) ?_
                  exact ev_iret rfl dX10_grid_103 h
              · replace h := h.2 c9
                refine ev_if_eq 102 dX10_grid_87 (by decide) (fun c9 => ?_) (fun c9 => ?_)
                · refine ev_iconst (-1) dX10_grid_102 (by decide) ?_
                  exact ev_iret rfl dX10_grid_103 h
                · exact absurd c9 (by decide)
            · exact absurd c9 (by decide)
        · replace h := h.1 c9
          refine ev_aload_n 1 dX10_grid_33 rfl ?_
          refine ev_get G10 lay_245 (k := 15) rfl (Nat.le_of_ble_eq_true rfl) dX10_grid_34 w_1241 ?_
          refine ev_goto 103 dX10_grid_37 (by decide) ?_
          exact ev_iret rfl dX10_grid_103 h
      · replace h := h.1 c9
        refine ev_iload_n 0 dX10_grid_24 rfl ?_
        refine ev_goto 103 dX10_grid_25 (by decide) ?_
        exact ev_iret rfl dX10_grid_103 h
    · exact absurd c9 (by decide)
  · replace h := h.2 c9
    refine ev_if_ne 14 dX10_grid_9 (by decide) (fun c9 => ?_) (fun c9 => ?_)
    · exact absurd c9 (by decide)
    · refine ev_iconst (-1) dX10_grid_12 (by decide) ?_
      exact ev_iret rfl dX10_grid_13 h
abbrev KX10_isMarks_12 (N : Nat) (σ : Sg) (Q : Option Value → Sg → Prop) (x0 : Int32) (x1 : Int32) (x2 : Int32) : Prop := Ev (N + 1) mX10_isMarks 12 [(0, .int x0), (1, .int x1), (2, .int x2)] [] σ Q
theorem EX10_isMarks {N : Nat} {σ : Sg} {Q : Option Value → Sg → Prop} {x0 : Int32} (h : ((0 ≤ ((x0).toInt64).toInt ∧ ((x0).toInt64).toInt ≤ 1048575) → KX10_isMarks_12 N σ Q x0 1 0) ∧ (¬ (0 ≤ ((x0).toInt64).toInt ∧ ((x0).toInt64).toInt ≤ 1048575) → KX10_isMarks_12 N σ Q x0 0 0)) : EvM (N + 1) mX10_isMarks [.int x0] σ Q := by
  refine ev_entry rfl (Nat.le_of_ble_eq_true rfl) (lv := [(0, .int x0)]) rfl ?_
  refine ev_iload_n 0 dX10_isMarks_0 rfl ?_
  refine ev_i2l dX10_isMarks_1 ?_
  refine ev_lconst 0 dX10_isMarks_2 (by decide) ?_
  refine ev_ldc2 1048575 dX10_isMarks_3 w_1566 ?_
  refine ev_callS (M' := mX10_in) [.long ((x0).toInt64), .long 0, .long 1048575] vX10_in dX10_isMarks_6 w_1421 rfl rfl (Nat.le_of_ble_eq_true rfl) (C10_in (P := 0 ≤ ((x0).toInt64).toInt ∧ ((x0).toInt64).toInt ≤ 1048575) (by (try simp only [i_l]); exact Iff.rfl) (Q := fun r9 s9 => σ = s9 ∧ ((r9 = some (.int 1) ∧ (0 ≤ ((x0).toInt64).toInt ∧ ((x0).toInt64).toInt ≤ 1048575)) ∨ (r9 = some (.int 0) ∧ ¬ (0 ≤ ((x0).toInt64).toInt ∧ ((x0).toInt64).toInt ≤ 1048575)))) ⟨fun c9 => ⟨rfl, Or.inl ⟨rfl, c9⟩⟩, fun c9 => ⟨rfl, Or.inr ⟨rfl, c9⟩⟩⟩) ?_
  rintro r9 s9 ⟨rfl, ⟨rfl, c9⟩ | ⟨rfl, c9⟩⟩
  · replace h := h.1 c9
    refine ev_istore_n (lv' := [(1, .int 1), (0, .int x0)]) dX10_isMarks_9 (Nat.le_of_ble_eq_true rfl) rfl ?_
    refine ev_iconst 0 dX10_isMarks_10 (by decide) ?_
    refine ev_istore_n (lv' := [(2, .int 0), (1, .int 1), (0, .int x0)]) dX10_isMarks_11 (Nat.le_of_ble_eq_true rfl) rfl ?_
    refine ev_sub [2, 1, 0] rfl ?_
    exact h
  · replace h := h.2 c9
    refine ev_istore_n (lv' := [(1, .int 0), (0, .int x0)]) dX10_isMarks_9 (Nat.le_of_ble_eq_true rfl) rfl ?_
    refine ev_iconst 0 dX10_isMarks_10 (by decide) ?_
    refine ev_istore_n (lv' := [(2, .int 0), (1, .int 0), (0, .int x0)]) dX10_isMarks_11 (Nat.le_of_ble_eq_true rfl) rfl ?_
    refine ev_sub [2, 1, 0] rfl ?_
    exact h
theorem BX10_isMarks_12 {N : Nat} {σ : Sg} {Q : Option Value → Sg → Prop} {x0 : Int32} {x1 : Int32} {x2 : Int32} (h : (4 ≤ x2 → narrow .boolean (.int x1) = .int x1 ∧ Q (some (.int x1)) σ) ∧ (¬ 4 ≤ x2 → (x1 = 0 → KX10_isMarks_12 N σ Q x0 0 (x2 + 1)) ∧ (¬ x1 = 0 → (20 < ((x0 >>> ((5 * x2) &&& 31)) &&& 31) → KX10_isMarks_12 N σ Q x0 0 (x2 + 1)) ∧ (¬ 20 < ((x0 >>> ((5 * x2) &&& 31)) &&& 31) → KX10_isMarks_12 N σ Q x0 1 (x2 + 1))))) : KX10_isMarks_12 N σ Q x0 x1 x2 := by
  refine ev_iload_n 2 dX10_isMarks_12 rfl ?_
  refine ev_iconst 4 dX10_isMarks_13 (by decide) ?_
  refine ev_icmp_ge 46 dX10_isMarks_14 (by decide) (fun c9 => ?_) (fun c9 => ?_)
  · replace h := h.1 c9
    refine ev_iload_n 1 dX10_isMarks_46 rfl ?_
    exact ev_zret (ty := .boolean) rfl (by exact h.1) dX10_isMarks_47 h.2
  · replace h := h.2 c9
    refine ev_iload_n 1 dX10_isMarks_17 rfl ?_
    refine ev_if_eq 38 dX10_isMarks_18 (by decide) (fun c9 => ?_) (fun c9 => ?_)
    · replace h := h.1 c9
      refine ev_iconst 0 dX10_isMarks_38 (by decide) ?_
      refine ev_istore_n (lv' := [(1, .int 0), (0, .int x0), (2, .int x2)]) dX10_isMarks_39 (Nat.le_of_ble_eq_true rfl) rfl ?_
      refine ev_iinc (lv' := [(2, .int (x2 + 1)), (1, .int 0), (0, .int x0)]) (x2 + 1) 2 dX10_isMarks_40 rfl rfl (Nat.le_of_ble_eq_true rfl) rfl ?_
      refine ev_goto 12 dX10_isMarks_43 (by decide) ?_
      refine ev_sub [2, 1, 0] rfl ?_
      exact h
    · replace h := h.2 c9
      refine ev_iload_n 0 dX10_isMarks_21 rfl ?_
      refine ev_iconst 5 dX10_isMarks_22 (by decide) ?_
      refine ev_iload_n 2 dX10_isMarks_23 rfl ?_
      refine ev_imul dX10_isMarks_24 ?_
      refine ev_ishr dX10_isMarks_25 ?_
      refine ev_bipush 31 dX10_isMarks_26 (by decide) ?_
      refine ev_iand dX10_isMarks_28 ?_
      refine ev_bipush 20 dX10_isMarks_29 (by decide) ?_
      refine ev_icmp_gt 38 dX10_isMarks_31 (by decide) (fun c9 => ?_) (fun c9 => ?_)
      · replace h := h.1 c9
        refine ev_iconst 0 dX10_isMarks_38 (by decide) ?_
        refine ev_istore_n (lv' := [(1, .int 0), (0, .int x0), (2, .int x2)]) dX10_isMarks_39 (Nat.le_of_ble_eq_true rfl) rfl ?_
        refine ev_iinc (lv' := [(2, .int (x2 + 1)), (1, .int 0), (0, .int x0)]) (x2 + 1) 2 dX10_isMarks_40 rfl rfl (Nat.le_of_ble_eq_true rfl) rfl ?_
        refine ev_goto 12 dX10_isMarks_43 (by decide) ?_
        refine ev_sub [2, 1, 0] rfl ?_
        exact h
      · replace h := h.2 c9
        refine ev_iconst 1 dX10_isMarks_34 (by decide) ?_
        refine ev_goto 39 dX10_isMarks_35 (by decide) ?_
        refine ev_istore_n (lv' := [(1, .int 1), (0, .int x0), (2, .int x2)]) dX10_isMarks_39 (Nat.le_of_ble_eq_true rfl) rfl ?_
        refine ev_iinc (lv' := [(2, .int (x2 + 1)), (1, .int 1), (0, .int x0)]) (x2 + 1) 2 dX10_isMarks_40 rfl rfl (Nat.le_of_ble_eq_true rfl) rfl ?_
        refine ev_goto 12 dX10_isMarks_43 (by decide) ?_
        refine ev_sub [2, 1, 0] rfl ?_
        exact h
theorem EX10_account {N : Nat} {σ : Sg} {Q : Option Value → Sg → Prop} {x1 : Int32} {x2 : Int32} (h : EvM (N + 1) mX10_isMarks [.int x1] σ (fun r9 σ1 => ∃ v1, r9 = some (.int v1) ∧ ((v1 = 0 → Q (some (.int (-1))) σ1) ∧ (¬ v1 = 0 → EvM (N + 1) mX10_isMarks [.int x2] σ1 (fun r9 σ2 => ∃ v2, r9 = some (.int v2) ∧ ((v2 = 0 → Q (some (.int (-1))) σ2) ∧ (¬ v2 = 0 → ((σ2.1 245 20) = 8 → Q (some (.int (-3))) σ2) ∧ (¬ (σ2.1 245 20) = 8 → vp_in (σ2.1 245 20) 8 ∧ (vp_in ((u1 σ2 261 (σ2.1 245 20).toNatClampNeg x1).1 245 20) 8 ∧ (Q (some (.int (((u1 (u1 (u1 σ2 261 (σ2.1 245 20).toNatClampNeg x1) 262 ((u1 σ2 261 (σ2.1 245 20).toNatClampNeg x1).1 245 20).toNatClampNeg x2) 245 20 (((u1 (u1 σ2 261 (σ2.1 245 20).toNatClampNeg x1) 262 ((u1 σ2 261 (σ2.1 245 20).toNatClampNeg x1).1 245 20).toNatClampNeg x2).1 245 20) + 1)).1 245 20) - 1))) (u1 (u1 (u1 σ2 261 (σ2.1 245 20).toNatClampNeg x1) 262 ((u1 σ2 261 (σ2.1 245 20).toNatClampNeg x1).1 245 20).toNatClampNeg x2) 245 20 (((u1 (u1 σ2 261 (σ2.1 245 20).toNatClampNeg x1) 262 ((u1 σ2 261 (σ2.1 245 20).toNatClampNeg x1).1 245 20).toNatClampNeg x2).1 245 20) + 1)))))))))))) : EvM (N + 2) mX10_account [.ref 245, .int x1, .int x2] σ Q := by
  refine ev_entry rfl (Nat.le_of_ble_eq_true rfl) (lv := [(0, .ref 245), (1, .int x1), (2, .int x2)]) rfl ?_
  refine ev_iload_n 1 dX10_account_0 rfl ?_
  refine ev_callS (M' := mX10_isMarks) [.int x1] vX10_isMarks dX10_account_1 w_1563 rfl rfl (Nat.le_of_ble_eq_true rfl) h ?_
  rintro r9 σ1 ⟨v1, rfl, h⟩
  refine ev_if_eq 14 dX10_account_4 (by decide) (fun c9 => ?_) (fun c9 => ?_)
  · replace h := h.1 c9
    refine ev_iconst (-1) dX10_account_14 (by decide) ?_
    exact ev_iret rfl dX10_account_15 h
  · replace h := h.2 c9
    refine ev_iload_n 2 dX10_account_7 rfl ?_
    refine ev_callS (M' := mX10_isMarks) [.int x2] vX10_isMarks dX10_account_8 w_1563 rfl rfl (Nat.le_of_ble_eq_true rfl) h ?_
    rintro r9 σ2 ⟨v2, rfl, h⟩
    refine ev_if_ne 16 dX10_account_11 (by decide) (fun c9 => ?_) (fun c9 => ?_)
    · replace h := h.2 c9
      refine ev_aload_n 0 dX10_account_16 rfl ?_
      refine ev_get G10 lay_245 (k := 20) rfl (Nat.le_of_ble_eq_true rfl) dX10_account_17 w_1246 ?_
      refine ev_bipush 8 dX10_account_20 (by decide) ?_
      refine ev_icmp_ne 28 dX10_account_22 (by decide) (fun c9 => ?_) (fun c9 => ?_)
      · replace h := h.2 c9
        refine ev_aload_n 0 dX10_account_28 rfl ?_
        refine ev_getR (r := 261) G10 lay_245 (k := 21) rfl (Nat.le_of_ble_eq_true rfl) dX10_account_29 w_1247 ?_
        refine ev_aload_n 0 dX10_account_32 rfl ?_
        refine ev_get G10 lay_245 (k := 20) rfl (Nat.le_of_ble_eq_true rfl) dX10_account_33 w_1246 ?_
        refine ev_iload_n 1 dX10_account_36 rfl ?_
        have hb37 := h.1
        replace h := h.2
        refine ev_iast lay_261 (Nat.le_of_ble_eq_true rfl) hb37 dX10_account_37 ?_
        refine ev_aload_n 0 dX10_account_38 rfl ?_
        refine ev_getR (r := 262) G10 lay_245 (k := 22) rfl (Nat.le_of_ble_eq_true rfl) dX10_account_39 w_1248 ?_
        refine ev_aload_n 0 dX10_account_42 rfl ?_
        refine ev_get G10 lay_245 (k := 20) rfl (Nat.le_of_ble_eq_true rfl) dX10_account_43 w_1246 ?_
        refine ev_iload_n 2 dX10_account_46 rfl ?_
        have hb47 := h.1
        replace h := h.2
        refine ev_iast lay_262 (Nat.le_of_ble_eq_true rfl) hb47 dX10_account_47 ?_
        refine ev_aload_n 0 dX10_account_48 rfl ?_
        refine ev_dup dX10_account_49 rfl ?_
        refine ev_get G10 lay_245 (k := 20) rfl (Nat.le_of_ble_eq_true rfl) dX10_account_50 w_1246 ?_
        refine ev_iconst 1 dX10_account_53 (by decide) ?_
        refine ev_iadd dX10_account_54 ?_
        refine ev_put G10 lay_245 (k := 20) rfl (Nat.le_of_ble_eq_true rfl) rfl (by decide +kernel) dX10_account_55 w_1246 ?_
        refine ev_aload_n 0 dX10_account_58 rfl ?_
        refine ev_get G10 lay_245 (k := 20) rfl (Nat.le_of_ble_eq_true rfl) dX10_account_59 w_1246 ?_
        refine ev_iconst 1 dX10_account_62 (by decide) ?_
        refine ev_isub dX10_account_63 ?_
        exact ev_iret rfl dX10_account_64 h
      · replace h := h.1 c9
        refine ev_bipush (-3) dX10_account_25 (by decide) ?_
        exact ev_iret rfl dX10_account_27 h
    · replace h := h.1 c9
      refine ev_iconst (-1) dX10_account_14 (by decide) ?_
      exact ev_iret rfl dX10_account_15 h
theorem EX10_listed {N : Nat} {σ : Sg} {Q : Option Value → Sg → Prop} {x0 : Int32} (h : (x0 = 0 → Q (some (.int 1)) σ) ∧ (¬ x0 = 0 → (x0 = 1 → Q (some (.int 2)) σ) ∧ (¬ x0 = 1 → (x0 = 2 → Q (some (.int 4)) σ) ∧ (¬ x0 = 2 → (x0 = 3 → Q (some (.int 5)) σ) ∧ (¬ x0 = 3 → (x0 = 4 → Q (some (.int 6)) σ) ∧ (¬ x0 = 4 → (x0 = 5 → Q (some (.int 10)) σ) ∧ (¬ x0 = 5 → (x0 = 6 → Q (some (.int 12)) σ) ∧ (¬ x0 = 6 → Q (some (.int 60)) σ)))))))) : EvM N mX10_listed [.int x0] σ Q := by
  refine ev_entry rfl (Nat.le_of_ble_eq_true rfl) (lv := [(0, .int x0)]) rfl ?_
  refine ev_iload_n 0 dX10_listed_0 rfl ?_
  refine ev_if_ne 8 dX10_listed_1 (by decide) (fun c9 => ?_) (fun c9 => ?_)
  · replace h := h.2 c9
    refine ev_iload_n 0 dX10_listed_8 rfl ?_
    refine ev_iconst 1 dX10_listed_9 (by decide) ?_
    refine ev_icmp_ne 17 dX10_listed_10 (by decide) (fun c9 => ?_) (fun c9 => ?_)
    · replace h := h.2 c9
      refine ev_iload_n 0 dX10_listed_17 rfl ?_
      refine ev_iconst 2 dX10_listed_18 (by decide) ?_
      refine ev_icmp_ne 26 dX10_listed_19 (by decide) (fun c9 => ?_) (fun c9 => ?_)
      · replace h := h.2 c9
        refine ev_iload_n 0 dX10_listed_26 rfl ?_
        refine ev_iconst 3 dX10_listed_27 (by decide) ?_
        refine ev_icmp_ne 35 dX10_listed_28 (by decide) (fun c9 => ?_) (fun c9 => ?_)
        · replace h := h.2 c9
          refine ev_iload_n 0 dX10_listed_35 rfl ?_
          refine ev_iconst 4 dX10_listed_36 (by decide) ?_
          refine ev_icmp_ne 45 dX10_listed_37 (by decide) (fun c9 => ?_) (fun c9 => ?_)
          · replace h := h.2 c9
            refine ev_iload_n 0 dX10_listed_45 rfl ?_
            refine ev_iconst 5 dX10_listed_46 (by decide) ?_
            refine ev_icmp_ne 55 dX10_listed_47 (by decide) (fun c9 => ?_) (fun c9 => ?_)
            · replace h := h.2 c9
              refine ev_iload_n 0 dX10_listed_55 rfl ?_
              refine ev_bipush 6 dX10_listed_56 (by decide) ?_
              refine ev_icmp_ne 66 dX10_listed_58 (by decide) (fun c9 => ?_) (fun c9 => ?_)
              · replace h := h.2 c9
                refine ev_bipush 60 dX10_listed_66 (by decide) ?_
                exact ev_iret rfl dX10_listed_68 h
              · replace h := h.1 c9
                refine ev_bipush 12 dX10_listed_61 (by decide) ?_
                refine ev_goto 68 dX10_listed_63 (by decide) ?_
                exact ev_iret rfl dX10_listed_68 h
            · replace h := h.1 c9
              refine ev_bipush 10 dX10_listed_50 (by decide) ?_
              refine ev_goto 68 dX10_listed_52 (by decide) ?_
              exact ev_iret rfl dX10_listed_68 h
          · replace h := h.1 c9
            refine ev_bipush 6 dX10_listed_40 (by decide) ?_
            refine ev_goto 68 dX10_listed_42 (by decide) ?_
            exact ev_iret rfl dX10_listed_68 h
        · replace h := h.1 c9
          refine ev_iconst 5 dX10_listed_31 (by decide) ?_
          refine ev_goto 68 dX10_listed_32 (by decide) ?_
          exact ev_iret rfl dX10_listed_68 h
      · replace h := h.1 c9
        refine ev_iconst 4 dX10_listed_22 (by decide) ?_
        refine ev_goto 68 dX10_listed_23 (by decide) ?_
        exact ev_iret rfl dX10_listed_68 h
    · replace h := h.1 c9
      refine ev_iconst 2 dX10_listed_13 (by decide) ?_
      refine ev_goto 68 dX10_listed_14 (by decide) ?_
      exact ev_iret rfl dX10_listed_68 h
  · replace h := h.1 c9
    refine ev_iconst 1 dX10_listed_4 (by decide) ?_
    refine ev_goto 68 dX10_listed_5 (by decide) ?_
    exact ev_iret rfl dX10_listed_68 h
abbrev KX10_doAddUp_4 (N : Nat) (σ : Sg) (Q : Option Value → Sg → Prop) (x1 : Int32) (x2 : Int32) : Prop := Ev (N + 1) mX10_doAddUp 4 [(0, .ref 245), (1, .int x1), (2, .int x2)] [] σ Q
abbrev KX10_doAddUp_21 (N : Nat) (σ : Sg) (Q : Option Value → Sg → Prop) (x2 : Int32) (x3 : Int32) (x4 : Int32) : Prop := Ev (N + 1) mX10_doAddUp 21 [(0, .ref 245), (2, .int x2), (3, .int x3), (4, .int x4)] [] σ Q
theorem EX10_doAddUp {N : Nat} {σ : Sg} {Q : Option Value → Sg → Prop} (h : KX10_doAddUp_4 N σ Q 1 0) : EvM (N + 1) mX10_doAddUp [.ref 245] σ Q := by
  refine ev_entry rfl (Nat.le_of_ble_eq_true rfl) (lv := [(0, .ref 245)]) rfl ?_
  refine ev_iconst 1 dX10_doAddUp_0 (by decide) ?_
  refine ev_istore_n (lv' := [(1, .int 1), (0, .ref 245)]) dX10_doAddUp_1 (Nat.le_of_ble_eq_true rfl) rfl ?_
  refine ev_iconst 0 dX10_doAddUp_2 (by decide) ?_
  refine ev_istore_n (lv' := [(2, .int 0), (1, .int 1), (0, .ref 245)]) dX10_doAddUp_3 (Nat.le_of_ble_eq_true rfl) rfl ?_
  refine ev_sub [2, 1, 0] rfl ?_
  exact h
theorem BX10_doAddUp_4 {N : Nat} {σ : Sg} {Q : Option Value → Sg → Prop} {x1 : Int32} {x2 : Int32} (h : ((σ.1 245 20) ≤ x2 → narrow .boolean (.int x1) = .int x1 ∧ Q (some (.int x1)) σ) ∧ (¬ (σ.1 245 20) ≤ x2 → (x1 = 0 → narrow .boolean (.int x1) = .int x1 ∧ Q (some (.int x1)) σ) ∧ (¬ x1 = 0 → KX10_doAddUp_21 N σ Q x2 0 0))) : KX10_doAddUp_4 N σ Q x1 x2 := by
  refine ev_iload_n 2 dX10_doAddUp_4 rfl ?_
  refine ev_aload_n 0 dX10_doAddUp_5 rfl ?_
  refine ev_get G10 lay_245 (k := 20) rfl (Nat.le_of_ble_eq_true rfl) dX10_doAddUp_6 w_1246 ?_
  refine ev_icmp_ge 92 dX10_doAddUp_9 (by decide) (fun c9 => ?_) (fun c9 => ?_)
  · replace h := h.1 c9
    refine ev_iload_n 1 dX10_doAddUp_92 rfl ?_
    exact ev_zret (ty := .boolean) rfl (by exact h.1) dX10_doAddUp_93 h.2
  · replace h := h.2 c9
    refine ev_iload_n 1 dX10_doAddUp_12 rfl ?_
    refine ev_if_eq 92 dX10_doAddUp_13 (by decide) (fun c9 => ?_) (fun c9 => ?_)
    · replace h := h.1 c9
      refine ev_iload_n 1 dX10_doAddUp_92 rfl ?_
      exact ev_zret (ty := .boolean) rfl (by exact h.1) dX10_doAddUp_93 h.2
    · replace h := h.2 c9
      refine ev_iconst 0 dX10_doAddUp_16 (by decide) ?_
      refine ev_istore_n (lv' := [(3, .int 0), (0, .ref 245), (1, .int x1), (2, .int x2)]) dX10_doAddUp_17 (Nat.le_of_ble_eq_true rfl) rfl ?_
      refine ev_iconst 0 dX10_doAddUp_18 (by decide) ?_
      refine ev_istore (lv' := [(4, .int 0), (3, .int 0), (0, .ref 245), (1, .int x1), (2, .int x2)]) dX10_doAddUp_19 (Nat.le_of_ble_eq_true rfl) rfl ?_
      refine ev_sub [2, 4, 1, 0] rfl ?_
      exact h
theorem BX10_doAddUp_21 {N : Nat} {σ : Sg} {Q : Option Value → Sg → Prop} {x2 : Int32} {x3 : Int32} {x4 : Int32} (h : (4 ≤ x4 → (x3 = 0 → KX10_doAddUp_4 N σ Q 1 (x2 + 1)) ∧ (¬ x3 = 0 → KX10_doAddUp_4 N σ Q 0 (x2 + 1))) ∧ (¬ 4 ≤ x4 → vp_in x4 4 ∧ (EvM N mX10_listed [.int (σ.1 263 (x4).toNatClampNeg)] σ (fun r9 σ1 => ∃ v1, r9 = some (.int v1) ∧ (vp_in x2 8 ∧ (vp_in x2 8 ∧ (KX10_doAddUp_21 N σ1 Q x2 (x3 + (v1 * ((((σ1.1 261 (x2).toNatClampNeg) >>> ((5 * x4) &&& 31)) &&& 31) - (((σ1.1 262 (x2).toNatClampNeg) >>> ((5 * x4) &&& 31)) &&& 31)))) (x4 + 1)))))))) : KX10_doAddUp_21 N σ Q x2 x3 x4 := by
  refine ev_iload 3 dX10_doAddUp_21 rfl ?_
  refine ev_iconst 4 dX10_doAddUp_23 (by decide) ?_
  refine ev_icmp_ge 76 dX10_doAddUp_24 (by decide) (fun c9 => ?_) (fun c9 => ?_)
  · replace h := h.1 c9
    refine ev_iload_n 2 dX10_doAddUp_76 rfl ?_
    refine ev_if_ne 84 dX10_doAddUp_77 (by decide) (fun c9 => ?_) (fun c9 => ?_)
    · replace h := h.2 c9
      refine ev_iconst 0 dX10_doAddUp_84 (by decide) ?_
      refine ev_istore_n (lv' := [(1, .int 0), (0, .ref 245), (2, .int x2), (3, .int x3), (4, .int x4)]) dX10_doAddUp_85 (Nat.le_of_ble_eq_true rfl) rfl ?_
      refine ev_iinc (lv' := [(2, .int (x2 + 1)), (1, .int 0), (0, .ref 245), (3, .int x3), (4, .int x4)]) (x2 + 1) 2 dX10_doAddUp_86 rfl rfl (Nat.le_of_ble_eq_true rfl) rfl ?_
      refine ev_goto 4 dX10_doAddUp_89 (by decide) ?_
      refine ev_sub [2, 1, 0] rfl ?_
      exact h
    · replace h := h.1 c9
      refine ev_iconst 1 dX10_doAddUp_80 (by decide) ?_
      refine ev_goto 85 dX10_doAddUp_81 (by decide) ?_
      refine ev_istore_n (lv' := [(1, .int 1), (0, .ref 245), (2, .int x2), (3, .int x3), (4, .int x4)]) dX10_doAddUp_85 (Nat.le_of_ble_eq_true rfl) rfl ?_
      refine ev_iinc (lv' := [(2, .int (x2 + 1)), (1, .int 1), (0, .ref 245), (3, .int x3), (4, .int x4)]) (x2 + 1) 2 dX10_doAddUp_86 rfl rfl (Nat.le_of_ble_eq_true rfl) rfl ?_
      refine ev_goto 4 dX10_doAddUp_89 (by decide) ?_
      refine ev_sub [2, 1, 0] rfl ?_
      exact h
  · replace h := h.2 c9
    refine ev_iload_n 2 dX10_doAddUp_27 rfl ?_
    refine ev_aload_n 0 dX10_doAddUp_28 rfl ?_
    refine ev_getR (r := 263) G10 lay_245 (k := 23) rfl (Nat.le_of_ble_eq_true rfl) dX10_doAddUp_29 w_1249 ?_
    refine ev_iload 3 dX10_doAddUp_32 rfl ?_
    have hb34 := h.1
    replace h := h.2
    refine ev_iald lay_263 (Nat.le_of_ble_eq_true rfl) hb34 dX10_doAddUp_34 ?_
    refine ev_callS (M' := mX10_listed) [.int (σ.1 263 (x4).toNatClampNeg)] vX10_listed dX10_doAddUp_35 w_1580 rfl rfl (Nat.le_of_ble_eq_true rfl) h ?_
    rintro r9 σ1 ⟨v1, rfl, h⟩
    refine ev_aload_n 0 dX10_doAddUp_38 rfl ?_
    refine ev_getR (r := 261) G10 lay_245 (k := 21) rfl (Nat.le_of_ble_eq_true rfl) dX10_doAddUp_39 w_1247 ?_
    refine ev_iload_n 1 dX10_doAddUp_42 rfl ?_
    have hb43 := h.1
    replace h := h.2
    refine ev_iald lay_261 (Nat.le_of_ble_eq_true rfl) hb43 dX10_doAddUp_43 ?_
    refine ev_iconst 5 dX10_doAddUp_44 (by decide) ?_
    refine ev_iload 3 dX10_doAddUp_45 rfl ?_
    refine ev_imul dX10_doAddUp_47 ?_
    refine ev_ishr dX10_doAddUp_48 ?_
    refine ev_bipush 31 dX10_doAddUp_49 (by decide) ?_
    refine ev_iand dX10_doAddUp_51 ?_
    refine ev_aload_n 0 dX10_doAddUp_52 rfl ?_
    refine ev_getR (r := 262) G10 lay_245 (k := 22) rfl (Nat.le_of_ble_eq_true rfl) dX10_doAddUp_53 w_1248 ?_
    refine ev_iload_n 1 dX10_doAddUp_56 rfl ?_
    have hb57 := h.1
    replace h := h.2
    refine ev_iald lay_262 (Nat.le_of_ble_eq_true rfl) hb57 dX10_doAddUp_57 ?_
    refine ev_iconst 5 dX10_doAddUp_58 (by decide) ?_
    refine ev_iload 3 dX10_doAddUp_59 rfl ?_
    refine ev_imul dX10_doAddUp_61 ?_
    refine ev_ishr dX10_doAddUp_62 ?_
    refine ev_bipush 31 dX10_doAddUp_63 (by decide) ?_
    refine ev_iand dX10_doAddUp_65 ?_
    refine ev_isub dX10_doAddUp_66 ?_
    refine ev_imul dX10_doAddUp_67 ?_
    refine ev_iadd dX10_doAddUp_68 ?_
    refine ev_istore_n (lv' := [(3, .int (x3 + (v1 * ((((σ1.1 261 (x2).toNatClampNeg) >>> ((5 * x4) &&& 31)) &&& 31) - (((σ1.1 262 (x2).toNatClampNeg) >>> ((5 * x4) &&& 31)) &&& 31))))), (0, .ref 245), (2, .int x2), (4, .int x4)]) dX10_doAddUp_69 (Nat.le_of_ble_eq_true rfl) rfl ?_
    refine ev_iinc (lv' := [(4, .int (x4 + 1)), (3, .int (x3 + (v1 * ((((σ1.1 261 (x2).toNatClampNeg) >>> ((5 * x4) &&& 31)) &&& 31) - (((σ1.1 262 (x2).toNatClampNeg) >>> ((5 * x4) &&& 31)) &&& 31))))), (0, .ref 245), (2, .int x2)]) (x4 + 1) 3 dX10_doAddUp_70 rfl rfl (Nat.le_of_ble_eq_true rfl) rfl ?_
    refine ev_goto 21 dX10_doAddUp_73 (by decide) ?_
    refine ev_sub [2, 3, 1, 0] rfl ?_
    exact h
abbrev KX10_findValues_7 (N : Nat) (σ : Sg) (Q : Option Value → Sg → Prop) (x1 : Int32) : Prop := Ev (N + 2) mX10_findValues 7 [(0, .ref 245), (1, .int x1)] [] σ Q
abbrev KX10_findValues_28 (N : Nat) (σ : Sg) (Q : Option Value → Sg → Prop) (x1 : Int32) : Prop := Ev (N + 2) mX10_findValues 28 [(0, .ref 245), (1, .int x1)] [] σ Q
abbrev KX10_findValues_37 (N : Nat) (σ : Sg) (Q : Option Value → Sg → Prop) (x1 : Int32) (x2 : Int32) : Prop := Ev (N + 2) mX10_findValues 37 [(0, .ref 245), (1, .int x1), (2, .int x2)] [] σ Q
abbrev KX10_findValues_68 (N : Nat) (σ : Sg) (Q : Option Value → Sg → Prop) (x1 : Int32) (x2 : Int32) (x3 : Int32) : Prop := Ev (N + 2) mX10_findValues 68 [(0, .ref 245), (1, .int x1), (2, .int x2), (3, .int x3)] [] σ Q
abbrev KX10_findValues_76 (N : Nat) (σ : Sg) (Q : Option Value → Sg → Prop) (x1 : Int32) (x2 : Int32) (x3 : Int32) (x4 : Int32) : Prop := Ev (N + 2) mX10_findValues 76 [(0, .ref 245), (1, .int x1), (2, .int x2), (3, .int x3), (4, .int x4)] [] σ Q
abbrev KX10_findValues_133 (N : Nat) (σ : Sg) (Q : Option Value → Sg → Prop) (x1 : Int32) (x3 : Int32) : Prop := Ev (N + 2) mX10_findValues 133 [(0, .ref 245), (1, .int x1), (3, .int x3)] [] σ Q
theorem EX10_findValues {N : Nat} {σ : Sg} {Q : Option Value → Sg → Prop} (h : KX10_findValues_7 N (u1 σ 245 24 0) Q 0) : EvM (N + 2) mX10_findValues [.ref 245] σ Q := by
  refine ev_entry rfl (Nat.le_of_ble_eq_true rfl) (lv := [(0, .ref 245)]) rfl ?_
  refine ev_aload_n 0 dX10_findValues_0 rfl ?_
  refine ev_iconst 0 dX10_findValues_1 (by decide) ?_
  refine ev_put G10 lay_245 (k := 24) rfl (Nat.le_of_ble_eq_true rfl) rfl (by decide +kernel) dX10_findValues_2 w_1250 ?_
  refine ev_iconst 0 dX10_findValues_5 (by decide) ?_
  refine ev_istore_n (lv' := [(1, .int 0), (0, .ref 245)]) dX10_findValues_6 (Nat.le_of_ble_eq_true rfl) rfl ?_
  refine ev_sub [1, 0] rfl ?_
  exact h
theorem BX10_findValues_7 {N : Nat} {σ : Sg} {Q : Option Value → Sg → Prop} {x1 : Int32} (h : (32 ≤ x1 → KX10_findValues_28 N σ Q 0) ∧ (¬ 32 ≤ x1 → vp_in x1 32 ∧ (KX10_findValues_7 N (u1 σ 265 (x1).toNatClampNeg (vp_nar .boolean 0)) Q (x1 + 1)))) : KX10_findValues_7 N σ Q x1 := by
  refine ev_iload_n 1 dX10_findValues_7 rfl ?_
  refine ev_bipush 32 dX10_findValues_8 (by decide) ?_
  refine ev_icmp_ge 26 dX10_findValues_10 (by decide) (fun c9 => ?_) (fun c9 => ?_)
  · replace h := h.1 c9
    refine ev_iconst 0 dX10_findValues_26 (by decide) ?_
    refine ev_istore_n (lv' := [(1, .int 0), (0, .ref 245)]) dX10_findValues_27 (Nat.le_of_ble_eq_true rfl) rfl ?_
    refine ev_sub [1, 0] rfl ?_
    exact h
  · replace h := h.2 c9
    refine ev_aload_n 0 dX10_findValues_13 rfl ?_
    refine ev_getR (r := 265) G10 lay_245 (k := 26) rfl (Nat.le_of_ble_eq_true rfl) dX10_findValues_14 w_1252 ?_
    refine ev_iload_n 1 dX10_findValues_17 rfl ?_
    refine ev_iconst 0 dX10_findValues_18 (by decide) ?_
    have hb19 := h.1
    replace h := h.2
    refine ev_zast lay_265 (Nat.le_of_ble_eq_true rfl) hb19 dX10_findValues_19 ?_
    refine ev_iinc (lv' := [(1, .int (x1 + 1)), (0, .ref 245)]) (x1 + 1) 1 dX10_findValues_20 rfl rfl (Nat.le_of_ble_eq_true rfl) rfl ?_
    refine ev_goto 7 dX10_findValues_23 (by decide) ?_
    refine ev_sub [1, 0] rfl ?_
    exact h
theorem BX10_findValues_28 {N : Nat} {σ : Sg} {Q : Option Value → Sg → Prop} {x1 : Int32} (h : (4096 ≤ x1 → Q none σ) ∧ (¬ 4096 ≤ x1 → KX10_findValues_37 N σ Q x1 0)) : KX10_findValues_28 N σ Q x1 := by
  refine ev_iload_n 1 dX10_findValues_28 rfl ?_
  refine ev_sipush 4096 dX10_findValues_29 (by decide) ?_
  refine ev_icmp_ge 205 dX10_findValues_32 (by decide) (fun c9 => ?_) (fun c9 => ?_)
  · replace h := h.1 c9
    exact ev_vret rfl dX10_findValues_205 h
  · replace h := h.2 c9
    refine ev_iconst 0 dX10_findValues_35 (by decide) ?_
    refine ev_istore_n (lv' := [(2, .int 0), (0, .ref 245), (1, .int x1)]) dX10_findValues_36 (Nat.le_of_ble_eq_true rfl) rfl ?_
    refine ev_sub [1, 2, 0] rfl ?_
    exact h
theorem BX10_findValues_37 {N : Nat} {σ : Sg} {Q : Option Value → Sg → Prop} {x1 : Int32} {x2 : Int32} (h : (4 ≤ x2 → KX10_findValues_68 N σ Q x1 1 0) ∧ (¬ 4 ≤ x2 → vp_in x2 4 ∧ (KX10_findValues_37 N (u1 σ 263 (x2).toNatClampNeg ((x1 >>> ((3 * (3 - x2)) &&& 31)) &&& 7)) Q x1 (x2 + 1)))) : KX10_findValues_37 N σ Q x1 x2 := by
  refine ev_iload_n 2 dX10_findValues_37 rfl ?_
  refine ev_iconst 4 dX10_findValues_38 (by decide) ?_
  refine ev_icmp_ge 64 dX10_findValues_39 (by decide) (fun c9 => ?_) (fun c9 => ?_)
  · replace h := h.1 c9
    refine ev_iconst 1 dX10_findValues_64 (by decide) ?_
    refine ev_istore_n (lv' := [(2, .int 1), (0, .ref 245), (1, .int x1)]) dX10_findValues_65 (Nat.le_of_ble_eq_true rfl) rfl ?_
    refine ev_iconst 0 dX10_findValues_66 (by decide) ?_
    refine ev_istore_n (lv' := [(3, .int 0), (2, .int 1), (0, .ref 245), (1, .int x1)]) dX10_findValues_67 (Nat.le_of_ble_eq_true rfl) rfl ?_
    refine ev_sub [2, 3, 1, 0] rfl ?_
    exact h
  · replace h := h.2 c9
    refine ev_aload_n 0 dX10_findValues_42 rfl ?_
    refine ev_getR (r := 263) G10 lay_245 (k := 23) rfl (Nat.le_of_ble_eq_true rfl) dX10_findValues_43 w_1249 ?_
    refine ev_iload_n 2 dX10_findValues_46 rfl ?_
    refine ev_iload_n 1 dX10_findValues_47 rfl ?_
    refine ev_iconst 3 dX10_findValues_48 (by decide) ?_
    refine ev_iconst 3 dX10_findValues_49 (by decide) ?_
    refine ev_iload_n 2 dX10_findValues_50 rfl ?_
    refine ev_isub dX10_findValues_51 ?_
    refine ev_imul dX10_findValues_52 ?_
    refine ev_ishr dX10_findValues_53 ?_
    refine ev_bipush 7 dX10_findValues_54 (by decide) ?_
    refine ev_iand dX10_findValues_56 ?_
    have hb57 := h.1
    replace h := h.2
    refine ev_iast lay_263 (Nat.le_of_ble_eq_true rfl) hb57 dX10_findValues_57 ?_
    refine ev_iinc (lv' := [(2, .int (x2 + 1)), (0, .ref 245), (1, .int x1)]) (x2 + 1) 2 dX10_findValues_58 rfl rfl (Nat.le_of_ble_eq_true rfl) rfl ?_
    refine ev_goto 37 dX10_findValues_61 (by decide) ?_
    refine ev_sub [1, 2, 0] rfl ?_
    exact h
theorem BX10_findValues_68 {N : Nat} {σ : Sg} {Q : Option Value → Sg → Prop} {x1 : Int32} {x2 : Int32} {x3 : Int32} (h : (4 ≤ x3 → (x2 = 0 → KX10_findValues_28 N σ Q (x1 + 1)) ∧ (¬ x2 = 0 → EvM (N + 1) mX10_doAddUp [.ref 245] σ (fun r9 σ1 => ∃ v1, r9 = some (.int v1) ∧ ((v1 = 0 → KX10_findValues_28 N σ1 Q (x1 + 1)) ∧ (¬ v1 = 0 → KX10_findValues_133 N σ1 Q x1 0))))) ∧ (¬ 4 ≤ x3 → KX10_findValues_76 N σ Q x1 x2 x3 0)) : KX10_findValues_68 N σ Q x1 x2 x3 := by
  refine ev_iload_n 3 dX10_findValues_68 rfl ?_
  refine ev_iconst 4 dX10_findValues_69 (by decide) ?_
  refine ev_icmp_ge 120 dX10_findValues_70 (by decide) (fun c9 => ?_) (fun c9 => ?_)
  · replace h := h.1 c9
    refine ev_iload_n 2 dX10_findValues_120 rfl ?_
    refine ev_if_eq 199 dX10_findValues_121 (by decide) (fun c9 => ?_) (fun c9 => ?_)
    · replace h := h.1 c9
      refine ev_iinc (lv' := [(1, .int (x1 + 1)), (0, .ref 245), (2, .int x2), (3, .int x3)]) (x1 + 1) 1 dX10_findValues_199 rfl rfl (Nat.le_of_ble_eq_true rfl) rfl ?_
      refine ev_goto 28 dX10_findValues_202 (by decide) ?_
      refine ev_sub [1, 0] rfl ?_
      exact h
    · replace h := h.2 c9
      refine ev_aload_n 0 dX10_findValues_124 rfl ?_
      refine ev_callV (M' := mX10_doAddUp) [] vX10_doAddUp G10 lay_245 dX10_findValues_125 w_1576 rfl rfl (Nat.le_of_ble_eq_true rfl) h ?_
      rintro r9 σ1 ⟨v1, rfl, h⟩
      refine ev_if_eq 199 dX10_findValues_128 (by decide) (fun c9 => ?_) (fun c9 => ?_)
      · replace h := h.1 c9
        refine ev_iinc (lv' := [(1, .int (x1 + 1)), (0, .ref 245), (2, .int x2), (3, .int x3)]) (x1 + 1) 1 dX10_findValues_199 rfl rfl (Nat.le_of_ble_eq_true rfl) rfl ?_
        refine ev_goto 28 dX10_findValues_202 (by decide) ?_
        refine ev_sub [1, 0] rfl ?_
        exact h
      · replace h := h.2 c9
        refine ev_iconst 0 dX10_findValues_131 (by decide) ?_
        refine ev_istore_n (lv' := [(3, .int 0), (0, .ref 245), (1, .int x1), (2, .int x2)]) dX10_findValues_132 (Nat.le_of_ble_eq_true rfl) rfl ?_
        refine ev_sub [1, 2, 0] rfl ?_
        exact h
  · replace h := h.2 c9
    refine ev_iconst 0 dX10_findValues_73 (by decide) ?_
    refine ev_istore (lv' := [(4, .int 0), (0, .ref 245), (1, .int x1), (2, .int x2), (3, .int x3)]) dX10_findValues_74 (Nat.le_of_ble_eq_true rfl) rfl ?_
    refine ev_sub [1, 2, 3, 4, 0] rfl ?_
    exact h
theorem BX10_findValues_76 {N : Nat} {σ : Sg} {Q : Option Value → Sg → Prop} {x1 : Int32} {x2 : Int32} {x3 : Int32} {x4 : Int32} (h : (x3 ≤ x4 → KX10_findValues_68 N σ Q x1 x2 (x3 + 1)) ∧ (¬ x3 ≤ x4 → (x2 = 0 → KX10_findValues_76 N σ Q x1 0 x3 (x4 + 1)) ∧ (¬ x2 = 0 → vp_in x3 4 ∧ (vp_in x4 4 ∧ (((σ.1 263 (x3).toNatClampNeg) = (σ.1 263 (x4).toNatClampNeg) → KX10_findValues_76 N σ Q x1 0 x3 (x4 + 1)) ∧ (¬ (σ.1 263 (x3).toNatClampNeg) = (σ.1 263 (x4).toNatClampNeg) → KX10_findValues_76 N σ Q x1 1 x3 (x4 + 1))))))) : KX10_findValues_76 N σ Q x1 x2 x3 x4 := by
  refine ev_iload 4 dX10_findValues_76 rfl ?_
  refine ev_iload_n 3 dX10_findValues_78 rfl ?_
  refine ev_icmp_ge 114 dX10_findValues_79 (by decide) (fun c9 => ?_) (fun c9 => ?_)
  · replace h := h.1 c9
    refine ev_iinc (lv' := [(3, .int (x3 + 1)), (0, .ref 245), (1, .int x1), (2, .int x2), (4, .int x4)]) (x3 + 1) 3 dX10_findValues_114 rfl rfl (Nat.le_of_ble_eq_true rfl) rfl ?_
    refine ev_goto 68 dX10_findValues_117 (by decide) ?_
    refine ev_sub [1, 2, 3, 0] rfl ?_
    exact h
  · replace h := h.2 c9
    refine ev_iload_n 2 dX10_findValues_82 rfl ?_
    refine ev_if_eq 106 dX10_findValues_83 (by decide) (fun c9 => ?_) (fun c9 => ?_)
    · replace h := h.1 c9
      refine ev_iconst 0 dX10_findValues_106 (by decide) ?_
      refine ev_istore_n (lv' := [(2, .int 0), (0, .ref 245), (1, .int x1), (3, .int x3), (4, .int x4)]) dX10_findValues_107 (Nat.le_of_ble_eq_true rfl) rfl ?_
      refine ev_iinc (lv' := [(4, .int (x4 + 1)), (2, .int 0), (0, .ref 245), (1, .int x1), (3, .int x3)]) (x4 + 1) 4 dX10_findValues_108 rfl rfl (Nat.le_of_ble_eq_true rfl) rfl ?_
      refine ev_goto 76 dX10_findValues_111 (by decide) ?_
      refine ev_sub [2, 3, 1, 4, 0] rfl ?_
      exact h
    · replace h := h.2 c9
      refine ev_aload_n 0 dX10_findValues_86 rfl ?_
      refine ev_getR (r := 263) G10 lay_245 (k := 23) rfl (Nat.le_of_ble_eq_true rfl) dX10_findValues_87 w_1249 ?_
      refine ev_iload_n 3 dX10_findValues_90 rfl ?_
      have hb91 := h.1
      replace h := h.2
      refine ev_iald lay_263 (Nat.le_of_ble_eq_true rfl) hb91 dX10_findValues_91 ?_
      refine ev_aload_n 0 dX10_findValues_92 rfl ?_
      refine ev_getR (r := 263) G10 lay_245 (k := 23) rfl (Nat.le_of_ble_eq_true rfl) dX10_findValues_93 w_1249 ?_
      refine ev_iload 4 dX10_findValues_96 rfl ?_
      have hb98 := h.1
      replace h := h.2
      refine ev_iald lay_263 (Nat.le_of_ble_eq_true rfl) hb98 dX10_findValues_98 ?_
      refine ev_icmp_eq 106 dX10_findValues_99 (by decide) (fun c9 => ?_) (fun c9 => ?_)
      · replace h := h.1 c9
        refine ev_iconst 0 dX10_findValues_106 (by decide) ?_
        refine ev_istore_n (lv' := [(2, .int 0), (0, .ref 245), (1, .int x1), (3, .int x3), (4, .int x4)]) dX10_findValues_107 (Nat.le_of_ble_eq_true rfl) rfl ?_
        refine ev_iinc (lv' := [(4, .int (x4 + 1)), (2, .int 0), (0, .ref 245), (1, .int x1), (3, .int x3)]) (x4 + 1) 4 dX10_findValues_108 rfl rfl (Nat.le_of_ble_eq_true rfl) rfl ?_
        refine ev_goto 76 dX10_findValues_111 (by decide) ?_
        refine ev_sub [2, 3, 1, 4, 0] rfl ?_
        exact h
      · replace h := h.2 c9
        refine ev_iconst 1 dX10_findValues_102 (by decide) ?_
        refine ev_goto 107 dX10_findValues_103 (by decide) ?_
        refine ev_istore_n (lv' := [(2, .int 1), (0, .ref 245), (1, .int x1), (3, .int x3), (4, .int x4)]) dX10_findValues_107 (Nat.le_of_ble_eq_true rfl) rfl ?_
        refine ev_iinc (lv' := [(4, .int (x4 + 1)), (2, .int 1), (0, .ref 245), (1, .int x1), (3, .int x3)]) (x4 + 1) 4 dX10_findValues_108 rfl rfl (Nat.le_of_ble_eq_true rfl) rfl ?_
        refine ev_goto 76 dX10_findValues_111 (by decide) ?_
        refine ev_sub [2, 3, 1, 4, 0] rfl ?_
        exact h
theorem BX10_findValues_133 {N : Nat} {σ : Sg} {Q : Option Value → Sg → Prop} {x1 : Int32} {x3 : Int32} (h : (4 ≤ x3 → KX10_findValues_28 N (u1 σ 245 24 ((σ.1 245 24) + 1)) Q (x1 + 1)) ∧ (¬ 4 ≤ x3 → ((σ.1 245 24) = 0 → vp_in x3 4 ∧ (vp_in x3 4 ∧ (vp_in x3 4 ∧ (vp_in ((8 * x3) + ((u1 σ 264 (x3).toNatClampNeg (σ.1 263 (x3).toNatClampNeg)).1 263 (x3).toNatClampNeg)) 32 ∧ (KX10_findValues_133 N (u1 (u1 σ 264 (x3).toNatClampNeg (σ.1 263 (x3).toNatClampNeg)) 265 ((8 * x3) + ((u1 σ 264 (x3).toNatClampNeg (σ.1 263 (x3).toNatClampNeg)).1 263 (x3).toNatClampNeg)).toNatClampNeg (vp_nar .boolean 1)) Q x1 (x3 + 1)))))) ∧ (¬ (σ.1 245 24) = 0 → vp_in x3 4 ∧ (vp_in x3 4 ∧ (vp_in x3 4 ∧ (vp_in ((8 * x3) + ((u1 σ 264 (x3).toNatClampNeg (σ.1 264 (x3).toNatClampNeg)).1 263 (x3).toNatClampNeg)) 32 ∧ (KX10_findValues_133 N (u1 (u1 σ 264 (x3).toNatClampNeg (σ.1 264 (x3).toNatClampNeg)) 265 ((8 * x3) + ((u1 σ 264 (x3).toNatClampNeg (σ.1 264 (x3).toNatClampNeg)).1 263 (x3).toNatClampNeg)).toNatClampNeg (vp_nar .boolean 1)) Q x1 (x3 + 1)))))))) : KX10_findValues_133 N σ Q x1 x3 := by
  refine ev_iload_n 2 dX10_findValues_133 rfl ?_
  refine ev_iconst 4 dX10_findValues_134 (by decide) ?_
  refine ev_icmp_ge 189 dX10_findValues_135 (by decide) (fun c9 => ?_) (fun c9 => ?_)
  · replace h := h.1 c9
    refine ev_aload_n 0 dX10_findValues_189 rfl ?_
    refine ev_dup dX10_findValues_190 rfl ?_
    refine ev_get G10 lay_245 (k := 24) rfl (Nat.le_of_ble_eq_true rfl) dX10_findValues_191 w_1250 ?_
    refine ev_iconst 1 dX10_findValues_194 (by decide) ?_
    refine ev_iadd dX10_findValues_195 ?_
    refine ev_put G10 lay_245 (k := 24) rfl (Nat.le_of_ble_eq_true rfl) rfl (by decide +kernel) dX10_findValues_196 w_1250 ?_
    refine ev_iinc (lv' := [(1, .int (x1 + 1)), (0, .ref 245), (3, .int x3)]) (x1 + 1) 1 dX10_findValues_199 rfl rfl (Nat.le_of_ble_eq_true rfl) rfl ?_
    refine ev_goto 28 dX10_findValues_202 (by decide) ?_
    refine ev_sub [1, 0] rfl ?_
    exact h
  · replace h := h.2 c9
    refine ev_aload_n 0 dX10_findValues_138 rfl ?_
    refine ev_getR (r := 264) G10 lay_245 (k := 25) rfl (Nat.le_of_ble_eq_true rfl) dX10_findValues_139 w_1251 ?_
    refine ev_iload_n 2 dX10_findValues_142 rfl ?_
    refine ev_aload_n 0 dX10_findValues_143 rfl ?_
    refine ev_get G10 lay_245 (k := 24) rfl (Nat.le_of_ble_eq_true rfl) dX10_findValues_144 w_1250 ?_
    refine ev_if_ne 159 dX10_findValues_147 (by decide) (fun c9 => ?_) (fun c9 => ?_)
    · replace h := h.2 c9
      refine ev_aload_n 0 dX10_findValues_159 rfl ?_
      refine ev_getR (r := 264) G10 lay_245 (k := 25) rfl (Nat.le_of_ble_eq_true rfl) dX10_findValues_160 w_1251 ?_
      refine ev_iload_n 2 dX10_findValues_163 rfl ?_
      have hb164 := h.1
      replace h := h.2
      refine ev_iald lay_264 (Nat.le_of_ble_eq_true rfl) hb164 dX10_findValues_164 ?_
      have hb165 := h.1
      replace h := h.2
      refine ev_iast lay_264 (Nat.le_of_ble_eq_true rfl) hb165 dX10_findValues_165 ?_
      refine ev_aload_n 0 dX10_findValues_166 rfl ?_
      refine ev_getR (r := 265) G10 lay_245 (k := 26) rfl (Nat.le_of_ble_eq_true rfl) dX10_findValues_167 w_1252 ?_
      refine ev_bipush 8 dX10_findValues_170 (by decide) ?_
      refine ev_iload_n 2 dX10_findValues_172 rfl ?_
      refine ev_imul dX10_findValues_173 ?_
      refine ev_aload_n 0 dX10_findValues_174 rfl ?_
      refine ev_getR (r := 263) G10 lay_245 (k := 23) rfl (Nat.le_of_ble_eq_true rfl) dX10_findValues_175 w_1249 ?_
      refine ev_iload_n 2 dX10_findValues_178 rfl ?_
      have hb179 := h.1
      replace h := h.2
      refine ev_iald lay_263 (Nat.le_of_ble_eq_true rfl) hb179 dX10_findValues_179 ?_
      refine ev_iadd dX10_findValues_180 ?_
      refine ev_iconst 1 dX10_findValues_181 (by decide) ?_
      have hb182 := h.1
      replace h := h.2
      refine ev_zast lay_265 (Nat.le_of_ble_eq_true rfl) hb182 dX10_findValues_182 ?_
      refine ev_iinc (lv' := [(3, .int (x3 + 1)), (0, .ref 245), (1, .int x1)]) (x3 + 1) 2 dX10_findValues_183 rfl rfl (Nat.le_of_ble_eq_true rfl) rfl ?_
      refine ev_goto 133 dX10_findValues_186 (by decide) ?_
      refine ev_sub [1, 2, 0] rfl ?_
      exact h
    · replace h := h.1 c9
      refine ev_aload_n 0 dX10_findValues_150 rfl ?_
      refine ev_getR (r := 263) G10 lay_245 (k := 23) rfl (Nat.le_of_ble_eq_true rfl) dX10_findValues_151 w_1249 ?_
      refine ev_iload_n 2 dX10_findValues_154 rfl ?_
      have hb155 := h.1
      replace h := h.2
      refine ev_iald lay_263 (Nat.le_of_ble_eq_true rfl) hb155 dX10_findValues_155 ?_
      refine ev_goto 165 dX10_findValues_156 (by decide) ?_
      have hb165 := h.1
      replace h := h.2
      refine ev_iast lay_264 (Nat.le_of_ble_eq_true rfl) hb165 dX10_findValues_165 ?_
      refine ev_aload_n 0 dX10_findValues_166 rfl ?_
      refine ev_getR (r := 265) G10 lay_245 (k := 26) rfl (Nat.le_of_ble_eq_true rfl) dX10_findValues_167 w_1252 ?_
      refine ev_bipush 8 dX10_findValues_170 (by decide) ?_
      refine ev_iload_n 2 dX10_findValues_172 rfl ?_
      refine ev_imul dX10_findValues_173 ?_
      refine ev_aload_n 0 dX10_findValues_174 rfl ?_
      refine ev_getR (r := 263) G10 lay_245 (k := 23) rfl (Nat.le_of_ble_eq_true rfl) dX10_findValues_175 w_1249 ?_
      refine ev_iload_n 2 dX10_findValues_178 rfl ?_
      have hb179 := h.1
      replace h := h.2
      refine ev_iald lay_263 (Nat.le_of_ble_eq_true rfl) hb179 dX10_findValues_179 ?_
      refine ev_iadd dX10_findValues_180 ?_
      refine ev_iconst 1 dX10_findValues_181 (by decide) ?_
      have hb182 := h.1
      replace h := h.2
      refine ev_zast lay_265 (Nat.le_of_ble_eq_true rfl) hb182 dX10_findValues_182 ?_
      refine ev_iinc (lv' := [(3, .int (x3 + 1)), (0, .ref 245), (1, .int x1)]) (x3 + 1) 2 dX10_findValues_183 rfl rfl (Nat.le_of_ble_eq_true rfl) rfl ?_
      refine ev_goto 133 dX10_findValues_186 (by decide) ?_
      refine ev_sub [1, 2, 0] rfl ?_
      exact h
theorem EX10_values {N : Nat} {σ : Sg} {Q : Option Value → Sg → Prop} {x1 : Int32} (h : ((0 ≤ ((x1).toInt64).toInt ∧ ((x1).toInt64).toInt ≤ 4) → EvM (N + 2) mX10_findValues [.ref 245] σ (fun r9 σ1 => r9 = none ∧ ((x1 = 0 → Q (some (.int (σ1.1 245 24))) σ1) ∧ (¬ x1 = 0 → ((σ1.1 245 24) = 0 → Q (some (.int (-4))) σ1) ∧ (¬ (σ1.1 245 24) = 0 → vp_in (x1 - 1) 4 ∧ (EvM (N + 2) mX10_listed [.int (σ1.1 264 (x1 - 1).toNatClampNeg)] σ1 (fun r9 σ2 => ∃ v2, r9 = some (.int v2) ∧ (Q (some (.int v2)) σ2)))))))) ∧ (¬ (0 ≤ ((x1).toInt64).toInt ∧ ((x1).toInt64).toInt ≤ 4) → Q (some (.int (-1))) σ)) : EvM (N + 3) mX10_values [.ref 245, .int x1] σ Q := by
  refine ev_entry rfl (Nat.le_of_ble_eq_true rfl) (lv := [(0, .ref 245), (1, .int x1)]) rfl ?_
  refine ev_iload_n 1 dX10_values_0 rfl ?_
  refine ev_i2l dX10_values_1 ?_
  refine ev_lconst 0 dX10_values_2 (by decide) ?_
  refine ev_ldc2 4 dX10_values_3 w_1571 ?_
  refine ev_callS (M' := mX10_in) [.long ((x1).toInt64), .long 0, .long 4] vX10_in dX10_values_6 w_1421 rfl rfl (Nat.le_of_ble_eq_true rfl) (C10_in (P := 0 ≤ ((x1).toInt64).toInt ∧ ((x1).toInt64).toInt ≤ 4) (by (try simp only [i_l]); exact Iff.rfl) (Q := fun r9 s9 => σ = s9 ∧ ((r9 = some (.int 1) ∧ (0 ≤ ((x1).toInt64).toInt ∧ ((x1).toInt64).toInt ≤ 4)) ∨ (r9 = some (.int 0) ∧ ¬ (0 ≤ ((x1).toInt64).toInt ∧ ((x1).toInt64).toInt ≤ 4)))) ⟨fun c9 => ⟨rfl, Or.inl ⟨rfl, c9⟩⟩, fun c9 => ⟨rfl, Or.inr ⟨rfl, c9⟩⟩⟩) ?_
  rintro r9 s9 ⟨rfl, ⟨rfl, c9⟩ | ⟨rfl, c9⟩⟩
  · replace h := h.1 c9
    refine ev_if_ne 14 dX10_values_9 (by decide) (fun c9 => ?_) (fun c9 => ?_)
    · refine ev_aload_n 0 dX10_values_14 rfl ?_
      refine ev_callV (M' := mX10_findValues) [] vX10_findValues G10 lay_245 dX10_values_15 w_1572 rfl rfl (Nat.le_of_ble_eq_true rfl) h ?_
      rintro r9 σ1 ⟨rfl, h⟩
      refine ev_iload_n 1 dX10_values_18 rfl ?_
      refine ev_if_ne 29 dX10_values_19 (by decide) (fun c9 => ?_) (fun c9 => ?_)
      · replace h := h.2 c9
        refine ev_aload_n 0 dX10_values_29 rfl ?_
        refine ev_get G10 lay_245 (k := 24) rfl (Nat.le_of_ble_eq_true rfl) dX10_values_30 w_1250 ?_
        refine ev_if_ne 41 dX10_values_33 (by decide) (fun c9 => ?_) (fun c9 => ?_)
        · replace h := h.2 c9
          refine ev_aload_n 0 dX10_values_41 rfl ?_
          refine ev_getR (r := 264) G10 lay_245 (k := 25) rfl (Nat.le_of_ble_eq_true rfl) dX10_values_42 w_1251 ?_
          refine ev_iload_n 1 dX10_values_45 rfl ?_
          refine ev_iconst 1 dX10_values_46 (by decide) ?_
          refine ev_isub dX10_values_47 ?_
          have hb48 := h.1
          replace h := h.2
          refine ev_iald lay_264 (Nat.le_of_ble_eq_true rfl) hb48 dX10_values_48 ?_
          refine ev_callS (M' := mX10_listed) [.int (σ1.1 264 (x1 - 1).toNatClampNeg)] vX10_listed dX10_values_49 w_1580 rfl rfl (Nat.le_of_ble_eq_true rfl) h ?_
          rintro r9 σ2 ⟨v2, rfl, h⟩
          exact ev_iret rfl dX10_values_52 h
        · replace h := h.1 c9
          refine ev_bipush (-4) dX10_values_36 (by decide) ?_
          refine ev_goto 52 dX10_values_38 (by decide) ?_
          exact ev_iret rfl dX10_values_52 h
      · replace h := h.1 c9
        refine ev_aload_n 0 dX10_values_22 rfl ?_
        refine ev_get G10 lay_245 (k := 24) rfl (Nat.le_of_ble_eq_true rfl) dX10_values_23 w_1250 ?_
        refine ev_goto 52 dX10_values_26 (by decide) ?_
        exact ev_iret rfl dX10_values_52 h
    · exact absurd c9 (by decide)
  · replace h := h.2 c9
    refine ev_if_ne 14 dX10_values_9 (by decide) (fun c9 => ?_) (fun c9 => ?_)
    · exact absurd c9 (by decide)
    · refine ev_iconst (-1) dX10_values_12 (by decide) ?_
      exact ev_iret rfl dX10_values_13 h
abbrev KX10_sure_22 (N : Nat) (σ : Sg) (Q : Option Value → Sg → Prop) (x1 : Int32) (x2 : Int32) (x3 : Int32) : Prop := Ev (N + 3) mX10_sure 22 [(0, .ref 245), (1, .int x1), (2, .int x2), (3, .int x3)] [] σ Q
theorem EX10_sure {N : Nat} {σ : Sg} {Q : Option Value → Sg → Prop} {x1 : Int32} (h : ((0 ≤ ((x1).toInt64).toInt ∧ ((x1).toInt64).toInt ≤ 3) → EvM (N + 2) mX10_findValues [.ref 245] σ (fun r9 σ1 => r9 = none ∧ (KX10_sure_22 N σ1 Q x1 0 0))) ∧ (¬ (0 ≤ ((x1).toInt64).toInt ∧ ((x1).toInt64).toInt ≤ 3) → Q (some (.int (-1))) σ)) : EvM (N + 3) mX10_sure [.ref 245, .int x1] σ Q := by
  refine ev_entry rfl (Nat.le_of_ble_eq_true rfl) (lv := [(0, .ref 245), (1, .int x1)]) rfl ?_
  refine ev_iload_n 1 dX10_sure_0 rfl ?_
  refine ev_i2l dX10_sure_1 ?_
  refine ev_lconst 0 dX10_sure_2 (by decide) ?_
  refine ev_ldc2 3 dX10_sure_3 w_1448 ?_
  refine ev_callS (M' := mX10_in) [.long ((x1).toInt64), .long 0, .long 3] vX10_in dX10_sure_6 w_1421 rfl rfl (Nat.le_of_ble_eq_true rfl) (C10_in (P := 0 ≤ ((x1).toInt64).toInt ∧ ((x1).toInt64).toInt ≤ 3) (by (try simp only [i_l]); exact Iff.rfl) (Q := fun r9 s9 => σ = s9 ∧ ((r9 = some (.int 1) ∧ (0 ≤ ((x1).toInt64).toInt ∧ ((x1).toInt64).toInt ≤ 3)) ∨ (r9 = some (.int 0) ∧ ¬ (0 ≤ ((x1).toInt64).toInt ∧ ((x1).toInt64).toInt ≤ 3)))) ⟨fun c9 => ⟨rfl, Or.inl ⟨rfl, c9⟩⟩, fun c9 => ⟨rfl, Or.inr ⟨rfl, c9⟩⟩⟩) ?_
  rintro r9 s9 ⟨rfl, ⟨rfl, c9⟩ | ⟨rfl, c9⟩⟩
  · replace h := h.1 c9
    refine ev_if_ne 14 dX10_sure_9 (by decide) (fun c9 => ?_) (fun c9 => ?_)
    · refine ev_aload_n 0 dX10_sure_14 rfl ?_
      refine ev_callV (M' := mX10_findValues) [] vX10_findValues G10 lay_245 dX10_sure_15 w_1572 rfl rfl (Nat.le_of_ble_eq_true rfl) h ?_
      rintro r9 σ1 ⟨rfl, h⟩
      refine ev_iconst 0 dX10_sure_18 (by decide) ?_
      refine ev_istore_n (lv' := [(2, .int 0), (0, .ref 245), (1, .int x1)]) dX10_sure_19 (Nat.le_of_ble_eq_true rfl) rfl ?_
      refine ev_iconst 0 dX10_sure_20 (by decide) ?_
      refine ev_istore_n (lv' := [(3, .int 0), (2, .int 0), (0, .ref 245), (1, .int x1)]) dX10_sure_21 (Nat.le_of_ble_eq_true rfl) rfl ?_
      refine ev_sub [2, 3, 1, 0] rfl ?_
      exact h
    · exact absurd c9 (by decide)
  · replace h := h.2 c9
    refine ev_if_ne 14 dX10_sure_9 (by decide) (fun c9 => ?_) (fun c9 => ?_)
    · exact absurd c9 (by decide)
    · refine ev_iconst (-1) dX10_sure_12 (by decide) ?_
      exact ev_iret rfl dX10_sure_13 h
theorem BX10_sure_22 {N : Nat} {σ : Sg} {Q : Option Value → Sg → Prop} {x1 : Int32} {x2 : Int32} {x3 : Int32} (h : (8 ≤ x3 → Q (some (.int x2)) σ) ∧ (¬ 8 ≤ x3 → vp_in ((8 * x1) + x3) 32 ∧ (((σ.1 265 ((8 * x1) + x3).toNatClampNeg) = 0 → KX10_sure_22 N σ Q x1 (x2 + 0) (x3 + 1)) ∧ (¬ (σ.1 265 ((8 * x1) + x3).toNatClampNeg) = 0 → KX10_sure_22 N σ Q x1 (x2 + 1) (x3 + 1))))) : KX10_sure_22 N σ Q x1 x2 x3 := by
  refine ev_iload_n 3 dX10_sure_22 rfl ?_
  refine ev_bipush 8 dX10_sure_23 (by decide) ?_
  refine ev_icmp_ge 56 dX10_sure_25 (by decide) (fun c9 => ?_) (fun c9 => ?_)
  · replace h := h.1 c9
    refine ev_iload_n 2 dX10_sure_56 rfl ?_
    exact ev_iret rfl dX10_sure_57 h
  · replace h := h.2 c9
    refine ev_iload_n 2 dX10_sure_28 rfl ?_
    refine ev_aload_n 0 dX10_sure_29 rfl ?_
    refine ev_getR (r := 265) G10 lay_245 (k := 26) rfl (Nat.le_of_ble_eq_true rfl) dX10_sure_30 w_1252 ?_
    refine ev_bipush 8 dX10_sure_33 (by decide) ?_
    refine ev_iload_n 1 dX10_sure_35 rfl ?_
    refine ev_imul dX10_sure_36 ?_
    refine ev_iload_n 3 dX10_sure_37 rfl ?_
    refine ev_iadd dX10_sure_38 ?_
    have hb39 := h.1
    replace h := h.2
    refine ev_zald lay_265 (Nat.le_of_ble_eq_true rfl) hb39 dX10_sure_39 ?_
    refine ev_if_eq 47 dX10_sure_40 (by decide) (fun c9 => ?_) (fun c9 => ?_)
    · replace h := h.1 c9
      refine ev_iconst 0 dX10_sure_47 (by decide) ?_
      refine ev_iadd dX10_sure_48 ?_
      refine ev_istore_n (lv' := [(2, .int (x2 + 0)), (0, .ref 245), (1, .int x1), (3, .int x3)]) dX10_sure_49 (Nat.le_of_ble_eq_true rfl) rfl ?_
      refine ev_iinc (lv' := [(3, .int (x3 + 1)), (2, .int (x2 + 0)), (0, .ref 245), (1, .int x1)]) (x3 + 1) 3 dX10_sure_50 rfl rfl (Nat.le_of_ble_eq_true rfl) rfl ?_
      refine ev_goto 22 dX10_sure_53 (by decide) ?_
      refine ev_sub [2, 3, 1, 0] rfl ?_
      exact h
    · replace h := h.2 c9
      refine ev_iconst 1 dX10_sure_43 (by decide) ?_
      refine ev_goto 48 dX10_sure_44 (by decide) ?_
      refine ev_iadd dX10_sure_48 ?_
      refine ev_istore_n (lv' := [(2, .int (x2 + 1)), (0, .ref 245), (1, .int x1), (3, .int x3)]) dX10_sure_49 (Nat.le_of_ble_eq_true rfl) rfl ?_
      refine ev_iinc (lv' := [(3, .int (x3 + 1)), (2, .int (x2 + 1)), (0, .ref 245), (1, .int x1)]) (x3 + 1) 3 dX10_sure_50 rfl rfl (Nat.le_of_ble_eq_true rfl) rfl ?_
      refine ev_goto 22 dX10_sure_53 (by decide) ?_
      refine ev_sub [2, 3, 1, 0] rfl ?_
      exact h
theorem EX10_name {N : Nat} {σ : Sg} {Q : Option Value → Sg → Prop} {x1 : Int32} {x2 : Int32} (h : ((1 ≤ ((x1).toInt64).toInt ∧ ((x1).toInt64).toInt ≤ 8) → ((0 ≤ ((x2).toInt64).toInt ∧ ((x2).toInt64).toInt ≤ (((1 <<< ((2 * x1) &&& 31)) - 1).toInt64).toInt) → ((σ.1 245 27) = 4 → Q (some (.int (-3))) σ) ∧ (¬ (σ.1 245 27) = 4 → vp_in (σ.1 245 27) 4 ∧ (vp_in ((u1 σ 266 (σ.1 245 27).toNatClampNeg x1).1 245 27) 4 ∧ (Q (some (.int (((u1 (u1 (u1 σ 266 (σ.1 245 27).toNatClampNeg x1) 267 ((u1 σ 266 (σ.1 245 27).toNatClampNeg x1).1 245 27).toNatClampNeg x2) 245 27 (((u1 (u1 σ 266 (σ.1 245 27).toNatClampNeg x1) 267 ((u1 σ 266 (σ.1 245 27).toNatClampNeg x1).1 245 27).toNatClampNeg x2).1 245 27) + 1)).1 245 27) - 1))) (u1 (u1 (u1 σ 266 (σ.1 245 27).toNatClampNeg x1) 267 ((u1 σ 266 (σ.1 245 27).toNatClampNeg x1).1 245 27).toNatClampNeg x2) 245 27 (((u1 (u1 σ 266 (σ.1 245 27).toNatClampNeg x1) 267 ((u1 σ 266 (σ.1 245 27).toNatClampNeg x1).1 245 27).toNatClampNeg x2).1 245 27) + 1)))))) ∧ (¬ (0 ≤ ((x2).toInt64).toInt ∧ ((x2).toInt64).toInt ≤ (((1 <<< ((2 * x1) &&& 31)) - 1).toInt64).toInt) → Q (some (.int (-1))) σ)) ∧ (¬ (1 ≤ ((x1).toInt64).toInt ∧ ((x1).toInt64).toInt ≤ 8) → Q (some (.int (-1))) σ)) : EvM (N + 1) mX10_name [.ref 245, .int x1, .int x2] σ Q := by
  refine ev_entry rfl (Nat.le_of_ble_eq_true rfl) (lv := [(0, .ref 245), (1, .int x1), (2, .int x2)]) rfl ?_
  refine ev_iload_n 1 dX10_name_0 rfl ?_
  refine ev_i2l dX10_name_1 ?_
  refine ev_lconst 1 dX10_name_2 (by decide) ?_
  refine ev_ldc2 8 dX10_name_3 w_1591 ?_
  refine ev_callS (M' := mX10_in) [.long ((x1).toInt64), .long 1, .long 8] vX10_in dX10_name_6 w_1421 rfl rfl (Nat.le_of_ble_eq_true rfl) (C10_in (P := 1 ≤ ((x1).toInt64).toInt ∧ ((x1).toInt64).toInt ≤ 8) (by (try simp only [i_l]); exact Iff.rfl) (Q := fun r9 s9 => σ = s9 ∧ ((r9 = some (.int 1) ∧ (1 ≤ ((x1).toInt64).toInt ∧ ((x1).toInt64).toInt ≤ 8)) ∨ (r9 = some (.int 0) ∧ ¬ (1 ≤ ((x1).toInt64).toInt ∧ ((x1).toInt64).toInt ≤ 8)))) ⟨fun c9 => ⟨rfl, Or.inl ⟨rfl, c9⟩⟩, fun c9 => ⟨rfl, Or.inr ⟨rfl, c9⟩⟩⟩) ?_
  rintro r9 s9 ⟨rfl, ⟨rfl, c9⟩ | ⟨rfl, c9⟩⟩
  · replace h := h.1 c9
    refine ev_if_eq 29 dX10_name_9 (by decide) (fun c9 => ?_) (fun c9 => ?_)
    · exact absurd c9 (by decide)
    · refine ev_iload_n 2 dX10_name_12 rfl ?_
      refine ev_i2l dX10_name_13 ?_
      refine ev_lconst 0 dX10_name_14 (by decide) ?_
      refine ev_iconst 1 dX10_name_15 (by decide) ?_
      refine ev_iconst 2 dX10_name_16 (by decide) ?_
      refine ev_iload_n 1 dX10_name_17 rfl ?_
      refine ev_imul dX10_name_18 ?_
      refine ev_ishl dX10_name_19 ?_
      refine ev_iconst 1 dX10_name_20 (by decide) ?_
      refine ev_isub dX10_name_21 ?_
      refine ev_i2l dX10_name_22 ?_
      refine ev_callS (M' := mX10_in) [.long ((x2).toInt64), .long 0, .long (((1 <<< ((2 * x1) &&& 31)) - 1).toInt64)] vX10_in dX10_name_23 w_1421 rfl rfl (Nat.le_of_ble_eq_true rfl) (C10_in (P := 0 ≤ ((x2).toInt64).toInt ∧ ((x2).toInt64).toInt ≤ (((1 <<< ((2 * x1) &&& 31)) - 1).toInt64).toInt) (by (try simp only [i_l]); exact Iff.rfl) (Q := fun r9 s9 => σ = s9 ∧ ((r9 = some (.int 1) ∧ (0 ≤ ((x2).toInt64).toInt ∧ ((x2).toInt64).toInt ≤ (((1 <<< ((2 * x1) &&& 31)) - 1).toInt64).toInt)) ∨ (r9 = some (.int 0) ∧ ¬ (0 ≤ ((x2).toInt64).toInt ∧ ((x2).toInt64).toInt ≤ (((1 <<< ((2 * x1) &&& 31)) - 1).toInt64).toInt)))) ⟨fun c9 => ⟨rfl, Or.inl ⟨rfl, c9⟩⟩, fun c9 => ⟨rfl, Or.inr ⟨rfl, c9⟩⟩⟩) ?_
      rintro r9 s9 ⟨rfl, ⟨rfl, c9⟩ | ⟨rfl, c9⟩⟩
      · replace h := h.1 c9
        refine ev_if_ne 31 dX10_name_26 (by decide) (fun c9 => ?_) (fun c9 => ?_)
        · refine ev_aload_n 0 dX10_name_31 rfl ?_
          refine ev_get G10 lay_245 (k := 27) rfl (Nat.le_of_ble_eq_true rfl) dX10_name_32 w_1253 ?_
          refine ev_iconst 4 dX10_name_35 (by decide) ?_
          refine ev_icmp_ne 42 dX10_name_36 (by decide) (fun c9 => ?_) (fun c9 => ?_)
          · replace h := h.2 c9
            refine ev_aload_n 0 dX10_name_42 rfl ?_
            refine ev_getR (r := 266) G10 lay_245 (k := 28) rfl (Nat.le_of_ble_eq_true rfl) dX10_name_43 w_1254 ?_
            refine ev_aload_n 0 dX10_name_46 rfl ?_
            refine ev_get G10 lay_245 (k := 27) rfl (Nat.le_of_ble_eq_true rfl) dX10_name_47 w_1253 ?_
            refine ev_iload_n 1 dX10_name_50 rfl ?_
            have hb51 := h.1
            replace h := h.2
            refine ev_iast lay_266 (Nat.le_of_ble_eq_true rfl) hb51 dX10_name_51 ?_
            refine ev_aload_n 0 dX10_name_52 rfl ?_
            refine ev_getR (r := 267) G10 lay_245 (k := 29) rfl (Nat.le_of_ble_eq_true rfl) dX10_name_53 w_1255 ?_
            refine ev_aload_n 0 dX10_name_56 rfl ?_
            refine ev_get G10 lay_245 (k := 27) rfl (Nat.le_of_ble_eq_true rfl) dX10_name_57 w_1253 ?_
            refine ev_iload_n 2 dX10_name_60 rfl ?_
            have hb61 := h.1
            replace h := h.2
            refine ev_iast lay_267 (Nat.le_of_ble_eq_true rfl) hb61 dX10_name_61 ?_
            refine ev_aload_n 0 dX10_name_62 rfl ?_
            refine ev_dup dX10_name_63 rfl ?_
            refine ev_get G10 lay_245 (k := 27) rfl (Nat.le_of_ble_eq_true rfl) dX10_name_64 w_1253 ?_
            refine ev_iconst 1 dX10_name_67 (by decide) ?_
            refine ev_iadd dX10_name_68 ?_
            refine ev_put G10 lay_245 (k := 27) rfl (Nat.le_of_ble_eq_true rfl) rfl (by decide +kernel) dX10_name_69 w_1253 ?_
            refine ev_aload_n 0 dX10_name_72 rfl ?_
            refine ev_get G10 lay_245 (k := 27) rfl (Nat.le_of_ble_eq_true rfl) dX10_name_73 w_1253 ?_
            refine ev_iconst 1 dX10_name_76 (by decide) ?_
            refine ev_isub dX10_name_77 ?_
            exact ev_iret rfl dX10_name_78 h
          · replace h := h.1 c9
            refine ev_bipush (-3) dX10_name_39 (by decide) ?_
            exact ev_iret rfl dX10_name_41 h
        · exact absurd c9 (by decide)
      · replace h := h.2 c9
        refine ev_if_ne 31 dX10_name_26 (by decide) (fun c9 => ?_) (fun c9 => ?_)
        · exact absurd c9 (by decide)
        · refine ev_iconst (-1) dX10_name_29 (by decide) ?_
          exact ev_iret rfl dX10_name_30 h
  · replace h := h.2 c9
    refine ev_if_eq 29 dX10_name_9 (by decide) (fun c9 => ?_) (fun c9 => ?_)
    · refine ev_iconst (-1) dX10_name_29 (by decide) ?_
      exact ev_iret rfl dX10_name_30 h
    · exact absurd c9 (by decide)
theorem EX10_isName {N : Nat} {σ : Sg} {Q : Option Value → Sg → Prop} {x1 : Int32} (h : ((0 ≤ ((x1).toInt64).toInt ∧ ((x1).toInt64).toInt ≤ (((σ.1 245 27) - 1).toInt64).toInt) → Q (some (.int 1)) σ) ∧ (¬ (0 ≤ ((x1).toInt64).toInt ∧ ((x1).toInt64).toInt ≤ (((σ.1 245 27) - 1).toInt64).toInt) → Q (some (.int 0)) σ)) : EvM (N + 1) mX10_isName [.ref 245, .int x1] σ Q := by
  refine ev_entry rfl (Nat.le_of_ble_eq_true rfl) (lv := [(0, .ref 245), (1, .int x1)]) rfl ?_
  refine ev_iload_n 1 dX10_isName_0 rfl ?_
  refine ev_i2l dX10_isName_1 ?_
  refine ev_lconst 0 dX10_isName_2 (by decide) ?_
  refine ev_aload_n 0 dX10_isName_3 rfl ?_
  refine ev_get G10 lay_245 (k := 27) rfl (Nat.le_of_ble_eq_true rfl) dX10_isName_4 w_1253 ?_
  refine ev_iconst 1 dX10_isName_7 (by decide) ?_
  refine ev_isub dX10_isName_8 ?_
  refine ev_i2l dX10_isName_9 ?_
  refine ev_callS (M' := mX10_in) [.long ((x1).toInt64), .long 0, .long (((σ.1 245 27) - 1).toInt64)] vX10_in dX10_isName_10 w_1421 rfl rfl (Nat.le_of_ble_eq_true rfl) (C10_in (P := 0 ≤ ((x1).toInt64).toInt ∧ ((x1).toInt64).toInt ≤ (((σ.1 245 27) - 1).toInt64).toInt) (by (try simp only [i_l]); exact Iff.rfl) (Q := fun r9 s9 => σ = s9 ∧ ((r9 = some (.int 1) ∧ (0 ≤ ((x1).toInt64).toInt ∧ ((x1).toInt64).toInt ≤ (((σ.1 245 27) - 1).toInt64).toInt)) ∨ (r9 = some (.int 0) ∧ ¬ (0 ≤ ((x1).toInt64).toInt ∧ ((x1).toInt64).toInt ≤ (((σ.1 245 27) - 1).toInt64).toInt)))) ⟨fun c9 => ⟨rfl, Or.inl ⟨rfl, c9⟩⟩, fun c9 => ⟨rfl, Or.inr ⟨rfl, c9⟩⟩⟩) ?_
  rintro r9 s9 ⟨rfl, ⟨rfl, c9⟩ | ⟨rfl, c9⟩⟩
  · replace h := h.1 c9
    exact ev_zret (ty := .boolean) rfl (by rfl) dX10_isName_13 h
  · replace h := h.2 c9
    exact ev_zret (ty := .boolean) rfl (by rfl) dX10_isName_13 h
theorem EX10_soundAt {N : Nat} {σ : Sg} {Q : Option Value → Sg → Prop} {x1 : Int32} {x2 : Int32} (h : vp_in x1 4 ∧ (vp_in x1 4 ∧ (Q (some (.int (((σ.1 267 (x1).toNatClampNeg) >>> ((2 * (((σ.1 266 (x1).toNatClampNeg) - 1) - x2)) &&& 31)) &&& 3))) σ))) : EvM N mX10_soundAt [.ref 245, .int x1, .int x2] σ Q := by
  refine ev_entry rfl (Nat.le_of_ble_eq_true rfl) (lv := [(0, .ref 245), (1, .int x1), (2, .int x2)]) rfl ?_
  refine ev_aload_n 0 dX10_soundAt_0 rfl ?_
  refine ev_getR (r := 267) G10 lay_245 (k := 29) rfl (Nat.le_of_ble_eq_true rfl) dX10_soundAt_1 w_1255 ?_
  refine ev_iload_n 1 dX10_soundAt_4 rfl ?_
  have hb5 := h.1
  replace h := h.2
  refine ev_iald lay_267 (Nat.le_of_ble_eq_true rfl) hb5 dX10_soundAt_5 ?_
  refine ev_iconst 2 dX10_soundAt_6 (by decide) ?_
  refine ev_aload_n 0 dX10_soundAt_7 rfl ?_
  refine ev_getR (r := 266) G10 lay_245 (k := 28) rfl (Nat.le_of_ble_eq_true rfl) dX10_soundAt_8 w_1254 ?_
  refine ev_iload_n 1 dX10_soundAt_11 rfl ?_
  have hb12 := h.1
  replace h := h.2
  refine ev_iald lay_266 (Nat.le_of_ble_eq_true rfl) hb12 dX10_soundAt_12 ?_
  refine ev_iconst 1 dX10_soundAt_13 (by decide) ?_
  refine ev_isub dX10_soundAt_14 ?_
  refine ev_iload_n 2 dX10_soundAt_15 rfl ?_
  refine ev_isub dX10_soundAt_16 ?_
  refine ev_imul dX10_soundAt_17 ?_
  refine ev_ishr dX10_soundAt_18 ?_
  refine ev_iconst 3 dX10_soundAt_19 (by decide) ?_
  refine ev_iand dX10_soundAt_20 ?_
  exact ev_iret rfl dX10_soundAt_21 h
abbrev KX10_doAgree_6 (N : Nat) (σ : Sg) (Q : Option Value → Sg → Prop) (x1 : Int32) (x2 : Int32) (x3 : Int32) (x4 : Int32) (x5 : Int32) (x6 : Int32) (x7 : Int32) (x8 : Int32) : Prop := Ev (N + 1) mX10_doAgree 6 [(0, .ref 245), (1, .int x1), (2, .int x2), (3, .int x3), (4, .int x4), (5, .int x5), (6, .int x6), (7, .int x7), (8, .int x8)] [] σ Q
abbrev KX10_doAgree_20 (N : Nat) (σ : Sg) (Q : Option Value → Sg → Prop) (x1 : Int32) (x2 : Int32) (x3 : Int32) (x4 : Int32) (x5 : Int32) (x6 : Int32) (x7 : Int32) (x8 : Int32) (x9 : Int32) : Prop := Ev (N + 1) mX10_doAgree 20 [(0, .ref 245), (1, .int x1), (2, .int x2), (3, .int x3), (4, .int x4), (5, .int x5), (6, .int x6), (7, .int x7), (8, .int x8), (9, .int x9)] [] σ Q
theorem EX10_doAgree {N : Nat} {σ : Sg} {Q : Option Value → Sg → Prop} {x1 : Int32} {x2 : Int32} {x3 : Int32} {x4 : Int32} {x5 : Int32} {x6 : Int32} (h : KX10_doAgree_6 N σ Q x1 x2 x3 x4 x5 x6 1 0) : EvM (N + 1) mX10_doAgree [.ref 245, .int x1, .int x2, .int x3, .int x4, .int x5, .int x6] σ Q := by
  refine ev_entry rfl (Nat.le_of_ble_eq_true rfl) (lv := [(0, .ref 245), (1, .int x1), (2, .int x2), (3, .int x3), (4, .int x4), (5, .int x5), (6, .int x6)]) rfl ?_
  refine ev_iconst 1 dX10_doAgree_0 (by decide) ?_
  refine ev_istore (lv' := [(7, .int 1), (0, .ref 245), (1, .int x1), (2, .int x2), (3, .int x3), (4, .int x4), (5, .int x5), (6, .int x6)]) dX10_doAgree_1 (Nat.le_of_ble_eq_true rfl) rfl ?_
  refine ev_iconst 0 dX10_doAgree_3 (by decide) ?_
  refine ev_istore (lv' := [(8, .int 0), (7, .int 1), (0, .ref 245), (1, .int x1), (2, .int x2), (3, .int x3), (4, .int x4), (5, .int x5), (6, .int x6)]) dX10_doAgree_4 (Nat.le_of_ble_eq_true rfl) rfl ?_
  refine ev_sub [2, 3, 4, 5, 6, 7, 8, 1, 0] rfl ?_
  exact h
theorem BX10_doAgree_6 {N : Nat} {σ : Sg} {Q : Option Value → Sg → Prop} {x1 : Int32} {x2 : Int32} {x3 : Int32} {x4 : Int32} {x5 : Int32} {x6 : Int32} {x7 : Int32} {x8 : Int32} (h : vp_in x1 4 ∧ (((σ.1 266 (x1).toNatClampNeg) ≤ x8 → narrow .boolean (.int x7) = .int x7 ∧ Q (some (.int x7)) σ) ∧ (¬ (σ.1 266 (x1).toNatClampNeg) ≤ x8 → KX10_doAgree_20 N σ Q x1 x2 x3 x4 x5 x6 x7 x8 0))) : KX10_doAgree_6 N σ Q x1 x2 x3 x4 x5 x6 x7 x8 := by
  refine ev_iload 8 dX10_doAgree_6 rfl ?_
  refine ev_aload_n 0 dX10_doAgree_8 rfl ?_
  refine ev_getR (r := 266) G10 lay_245 (k := 28) rfl (Nat.le_of_ble_eq_true rfl) dX10_doAgree_9 w_1254 ?_
  refine ev_iload_n 1 dX10_doAgree_12 rfl ?_
  have hb13 := h.1
  replace h := h.2
  refine ev_iald lay_266 (Nat.le_of_ble_eq_true rfl) hb13 dX10_doAgree_13 ?_
  refine ev_icmp_ge 110 dX10_doAgree_14 (by decide) (fun c9 => ?_) (fun c9 => ?_)
  · replace h := h.1 c9
    refine ev_iload 7 dX10_doAgree_110 rfl ?_
    exact ev_zret (ty := .boolean) rfl (by exact h.1) dX10_doAgree_112 h.2
  · replace h := h.2 c9
    refine ev_iconst 0 dX10_doAgree_17 (by decide) ?_
    refine ev_istore (lv' := [(9, .int 0), (0, .ref 245), (1, .int x1), (2, .int x2), (3, .int x3), (4, .int x4), (5, .int x5), (6, .int x6), (7, .int x7), (8, .int x8)]) dX10_doAgree_18 (Nat.le_of_ble_eq_true rfl) rfl ?_
    refine ev_sub [1, 2, 3, 4, 5, 6, 7, 8, 9, 0] rfl ?_
    exact h
theorem BX10_doAgree_20 {N : Nat} {σ : Sg} {Q : Option Value → Sg → Prop} {x1 : Int32} {x2 : Int32} {x3 : Int32} {x4 : Int32} {x5 : Int32} {x6 : Int32} {x7 : Int32} {x8 : Int32} {x9 : Int32} (h : vp_in x4 4 ∧ (((σ.1 266 (x4).toNatClampNeg) ≤ x9 → KX10_doAgree_6 N σ Q x1 x2 x3 x4 x5 x6 x7 (x8 + 1)) ∧ (¬ (σ.1 266 (x4).toNatClampNeg) ≤ x9 → (x7 = 0 → KX10_doAgree_20 N σ Q x1 x2 x3 x4 x5 x6 0 x8 (x9 + 1)) ∧ (¬ x7 = 0 → EvM N mX10_at [.ref 245, .int x2, .int (x3 + x8)] σ (fun r9 σ1 => ∃ v1, r9 = some (.int v1) ∧ (EvM N mX10_at [.ref 245, .int x5, .int (x6 + x9)] σ1 (fun r9 σ2 => ∃ v2, r9 = some (.int v2) ∧ ((v1 = v2 → EvM N mX10_soundAt [.ref 245, .int x1, .int x8] σ2 (fun r9 σ5 => ∃ v5, r9 = some (.int v5) ∧ (EvM N mX10_soundAt [.ref 245, .int x4, .int x9] σ5 (fun r9 σ6 => ∃ v6, r9 = some (.int v6) ∧ ((v5 = v6 → KX10_doAgree_20 N σ6 Q x1 x2 x3 x4 x5 x6 1 x8 (x9 + 1)) ∧ (¬ v5 = v6 → KX10_doAgree_20 N σ6 Q x1 x2 x3 x4 x5 x6 0 x8 (x9 + 1))))))) ∧ (¬ v1 = v2 → EvM N mX10_soundAt [.ref 245, .int x1, .int x8] σ2 (fun r9 σ3 => ∃ v3, r9 = some (.int v3) ∧ (EvM N mX10_soundAt [.ref 245, .int x4, .int x9] σ3 (fun r9 σ4 => ∃ v4, r9 = some (.int v4) ∧ ((v3 = v4 → KX10_doAgree_20 N σ4 Q x1 x2 x3 x4 x5 x6 0 x8 (x9 + 1)) ∧ (¬ v3 = v4 → KX10_doAgree_20 N σ4 Q x1 x2 x3 x4 x5 x6 1 x8 (x9 + 1))))))))))))))) : KX10_doAgree_20 N σ Q x1 x2 x3 x4 x5 x6 x7 x8 x9 := by
  refine ev_iload 9 dX10_doAgree_20 rfl ?_
  refine ev_aload_n 0 dX10_doAgree_22 rfl ?_
  refine ev_getR (r := 266) G10 lay_245 (k := 28) rfl (Nat.le_of_ble_eq_true rfl) dX10_doAgree_23 w_1254 ?_
  refine ev_iload 4 dX10_doAgree_26 rfl ?_
  have hb28 := h.1
  replace h := h.2
  refine ev_iald lay_266 (Nat.le_of_ble_eq_true rfl) hb28 dX10_doAgree_28 ?_
  refine ev_icmp_ge 104 dX10_doAgree_29 (by decide) (fun c9 => ?_) (fun c9 => ?_)
  · replace h := h.1 c9
    refine ev_iinc (lv' := [(8, .int (x8 + 1)), (0, .ref 245), (1, .int x1), (2, .int x2), (3, .int x3), (4, .int x4), (5, .int x5), (6, .int x6), (7, .int x7), (9, .int x9)]) (x8 + 1) 8 dX10_doAgree_104 rfl rfl (Nat.le_of_ble_eq_true rfl) rfl ?_
    refine ev_goto 6 dX10_doAgree_107 (by decide) ?_
    refine ev_sub [1, 2, 3, 4, 5, 6, 7, 8, 0] rfl ?_
    exact h
  · replace h := h.2 c9
    refine ev_iload 7 dX10_doAgree_32 rfl ?_
    refine ev_if_eq 95 dX10_doAgree_34 (by decide) (fun c9 => ?_) (fun c9 => ?_)
    · replace h := h.1 c9
      refine ev_iconst 0 dX10_doAgree_95 (by decide) ?_
      refine ev_istore (lv' := [(7, .int 0), (0, .ref 245), (1, .int x1), (2, .int x2), (3, .int x3), (4, .int x4), (5, .int x5), (6, .int x6), (8, .int x8), (9, .int x9)]) dX10_doAgree_96 (Nat.le_of_ble_eq_true rfl) rfl ?_
      refine ev_iinc (lv' := [(9, .int (x9 + 1)), (7, .int 0), (0, .ref 245), (1, .int x1), (2, .int x2), (3, .int x3), (4, .int x4), (5, .int x5), (6, .int x6), (8, .int x8)]) (x9 + 1) 9 dX10_doAgree_98 rfl rfl (Nat.le_of_ble_eq_true rfl) rfl ?_
      refine ev_goto 20 dX10_doAgree_101 (by decide) ?_
      refine ev_sub [2, 3, 4, 5, 6, 7, 8, 1, 9, 0] rfl ?_
      exact h
    · replace h := h.2 c9
      refine ev_aload_n 0 dX10_doAgree_37 rfl ?_
      refine ev_iload_n 2 dX10_doAgree_38 rfl ?_
      refine ev_iload_n 3 dX10_doAgree_39 rfl ?_
      refine ev_iload 8 dX10_doAgree_40 rfl ?_
      refine ev_iadd dX10_doAgree_42 ?_
      refine ev_callV (M' := mX10_at) [.int x2, .int (x3 + x8)] vX10_at G10 lay_245 dX10_doAgree_43 w_1471 rfl rfl (Nat.le_of_ble_eq_true rfl) h ?_
      rintro r9 σ1 ⟨v1, rfl, h⟩
      refine ev_aload_n 0 dX10_doAgree_46 rfl ?_
      refine ev_iload 5 dX10_doAgree_47 rfl ?_
      refine ev_iload 6 dX10_doAgree_49 rfl ?_
      refine ev_iload 9 dX10_doAgree_51 rfl ?_
      refine ev_iadd dX10_doAgree_53 ?_
      refine ev_callV (M' := mX10_at) [.int x5, .int (x6 + x9)] vX10_at G10 lay_245 dX10_doAgree_54 w_1471 rfl rfl (Nat.le_of_ble_eq_true rfl) h ?_
      rintro r9 σ2 ⟨v2, rfl, h⟩
      refine ev_icmp_ne 64 dX10_doAgree_57 (by decide) (fun c9 => ?_) (fun c9 => ?_)
      · replace h := h.2 c9
        refine ev_iconst 0 dX10_doAgree_64 (by decide) ?_
        refine ev_aload_n 0 dX10_doAgree_65 rfl ?_
        refine ev_iload_n 1 dX10_doAgree_66 rfl ?_
        refine ev_iload 8 dX10_doAgree_67 rfl ?_
        refine ev_callV (M' := mX10_soundAt) [.int x1, .int x8] vX10_soundAt G10 lay_245 dX10_doAgree_69 w_1608 rfl rfl (Nat.le_of_ble_eq_true rfl) h ?_
        rintro r9 σ3 ⟨v3, rfl, h⟩
        refine ev_aload_n 0 dX10_doAgree_72 rfl ?_
        refine ev_iload 4 dX10_doAgree_73 rfl ?_
        refine ev_iload 9 dX10_doAgree_75 rfl ?_
        refine ev_callV (M' := mX10_soundAt) [.int x4, .int x9] vX10_soundAt G10 lay_245 dX10_doAgree_77 w_1608 rfl rfl (Nat.le_of_ble_eq_true rfl) h ?_
        rintro r9 σ4 ⟨v4, rfl, h⟩
        refine ev_icmp_ne 87 dX10_doAgree_80 (by decide) (fun c9 => ?_) (fun c9 => ?_)
        · replace h := h.2 c9
          refine ev_iconst 0 dX10_doAgree_87 (by decide) ?_
          refine ev_icmp_ne 95 dX10_doAgree_88 (by decide) (fun c9 => ?_) (fun c9 => ?_)
          · exact absurd c9 (by decide)
          · refine ev_iconst 1 dX10_doAgree_91 (by decide) ?_
            refine ev_goto 96 dX10_doAgree_92 (by decide) ?_
            refine ev_istore (lv' := [(7, .int 1), (0, .ref 245), (1, .int x1), (2, .int x2), (3, .int x3), (4, .int x4), (5, .int x5), (6, .int x6), (8, .int x8), (9, .int x9)]) dX10_doAgree_96 (Nat.le_of_ble_eq_true rfl) rfl ?_
            refine ev_iinc (lv' := [(9, .int (x9 + 1)), (7, .int 1), (0, .ref 245), (1, .int x1), (2, .int x2), (3, .int x3), (4, .int x4), (5, .int x5), (6, .int x6), (8, .int x8)]) (x9 + 1) 9 dX10_doAgree_98 rfl rfl (Nat.le_of_ble_eq_true rfl) rfl ?_
            refine ev_goto 20 dX10_doAgree_101 (by decide) ?_
            refine ev_sub [2, 3, 4, 5, 6, 7, 8, 1, 9, 0] rfl ?_
            exact h
        · replace h := h.1 c9
          refine ev_iconst 1 dX10_doAgree_83 (by decide) ?_
          refine ev_goto 88 dX10_doAgree_84 (by decide) ?_
          refine ev_icmp_ne 95 dX10_doAgree_88 (by decide) (fun c9 => ?_) (fun c9 => ?_)
          · refine ev_iconst 0 dX10_doAgree_95 (by decide) ?_
            refine ev_istore (lv' := [(7, .int 0), (0, .ref 245), (1, .int x1), (2, .int x2), (3, .int x3), (4, .int x4), (5, .int x5), (6, .int x6), (8, .int x8), (9, .int x9)]) dX10_doAgree_96 (Nat.le_of_ble_eq_true rfl) rfl ?_
            refine ev_iinc (lv' := [(9, .int (x9 + 1)), (7, .int 0), (0, .ref 245), (1, .int x1), (2, .int x2), (3, .int x3), (4, .int x4), (5, .int x5), (6, .int x6), (8, .int x8)]) (x9 + 1) 9 dX10_doAgree_98 rfl rfl (Nat.le_of_ble_eq_true rfl) rfl ?_
            refine ev_goto 20 dX10_doAgree_101 (by decide) ?_
            refine ev_sub [2, 3, 4, 5, 6, 7, 8, 1, 9, 0] rfl ?_
            exact h
          · exact absurd c9 (by decide)
      · replace h := h.1 c9
        refine ev_iconst 1 dX10_doAgree_60 (by decide) ?_
        refine ev_goto 65 dX10_doAgree_61 (by decide) ?_
        refine ev_aload_n 0 dX10_doAgree_65 rfl ?_
        refine ev_iload_n 1 dX10_doAgree_66 rfl ?_
        refine ev_iload 8 dX10_doAgree_67 rfl ?_
        refine ev_callV (M' := mX10_soundAt) [.int x1, .int x8] vX10_soundAt G10 lay_245 dX10_doAgree_69 w_1608 rfl rfl (Nat.le_of_ble_eq_true rfl) h ?_
        rintro r9 σ5 ⟨v5, rfl, h⟩
        refine ev_aload_n 0 dX10_doAgree_72 rfl ?_
        refine ev_iload 4 dX10_doAgree_73 rfl ?_
        refine ev_iload 9 dX10_doAgree_75 rfl ?_
        refine ev_callV (M' := mX10_soundAt) [.int x4, .int x9] vX10_soundAt G10 lay_245 dX10_doAgree_77 w_1608 rfl rfl (Nat.le_of_ble_eq_true rfl) h ?_
        rintro r9 σ6 ⟨v6, rfl, h⟩
        refine ev_icmp_ne 87 dX10_doAgree_80 (by decide) (fun c9 => ?_) (fun c9 => ?_)
        · replace h := h.2 c9
          refine ev_iconst 0 dX10_doAgree_87 (by decide) ?_
          refine ev_icmp_ne 95 dX10_doAgree_88 (by decide) (fun c9 => ?_) (fun c9 => ?_)
          · refine ev_iconst 0 dX10_doAgree_95 (by decide) ?_
            refine ev_istore (lv' := [(7, .int 0), (0, .ref 245), (1, .int x1), (2, .int x2), (3, .int x3), (4, .int x4), (5, .int x5), (6, .int x6), (8, .int x8), (9, .int x9)]) dX10_doAgree_96 (Nat.le_of_ble_eq_true rfl) rfl ?_
            refine ev_iinc (lv' := [(9, .int (x9 + 1)), (7, .int 0), (0, .ref 245), (1, .int x1), (2, .int x2), (3, .int x3), (4, .int x4), (5, .int x5), (6, .int x6), (8, .int x8)]) (x9 + 1) 9 dX10_doAgree_98 rfl rfl (Nat.le_of_ble_eq_true rfl) rfl ?_
            refine ev_goto 20 dX10_doAgree_101 (by decide) ?_
            refine ev_sub [2, 3, 4, 5, 6, 7, 8, 1, 9, 0] rfl ?_
            exact h
          · exact absurd c9 (by decide)
        · replace h := h.1 c9
          refine ev_iconst 1 dX10_doAgree_83 (by decide) ?_
          refine ev_goto 88 dX10_doAgree_84 (by decide) ?_
          refine ev_icmp_ne 95 dX10_doAgree_88 (by decide) (fun c9 => ?_) (fun c9 => ?_)
          · exact absurd c9 (by decide)
          · refine ev_iconst 1 dX10_doAgree_91 (by decide) ?_
            refine ev_goto 96 dX10_doAgree_92 (by decide) ?_
            refine ev_istore (lv' := [(7, .int 1), (0, .ref 245), (1, .int x1), (2, .int x2), (3, .int x3), (4, .int x4), (5, .int x5), (6, .int x6), (8, .int x8), (9, .int x9)]) dX10_doAgree_96 (Nat.le_of_ble_eq_true rfl) rfl ?_
            refine ev_iinc (lv' := [(9, .int (x9 + 1)), (7, .int 1), (0, .ref 245), (1, .int x1), (2, .int x2), (3, .int x3), (4, .int x4), (5, .int x5), (6, .int x6), (8, .int x8)]) (x9 + 1) 9 dX10_doAgree_98 rfl rfl (Nat.le_of_ble_eq_true rfl) rfl ?_
            refine ev_goto 20 dX10_doAgree_101 (by decide) ?_
            refine ev_sub [2, 3, 4, 5, 6, 7, 8, 1, 9, 0] rfl ?_
            exact h
abbrev KX10_doesFit_22 (N : Nat) (σ : Sg) (Q : Option Value → Sg → Prop) (x1 : Int32) (x2 : Int32) (x3 : Int32) (x4 : Int32) : Prop := Ev (N + 2) mX10_doesFit 22 [(0, .ref 245), (1, .int x1), (2, .int x2), (3, .int x3), (4, .int x4)] [] σ Q
theorem EX10_doesFit {N : Nat} {σ : Sg} {Q : Option Value → Sg → Prop} {x1 : Int32} {x2 : Int32} {x3 : Int32} (h : vp_in x1 4 ∧ (vp_in x2 8 ∧ (((x3 + (σ.1 266 (x1).toNatClampNeg)) ≤ (σ.1 248 (x2).toNatClampNeg) → KX10_doesFit_22 N σ Q x1 x2 x3 0) ∧ (¬ (x3 + (σ.1 266 (x1).toNatClampNeg)) ≤ (σ.1 248 (x2).toNatClampNeg) → Q (some (.int 0)) σ)))) : EvM (N + 2) mX10_doesFit [.ref 245, .int x1, .int x2, .int x3] σ Q := by
  refine ev_entry rfl (Nat.le_of_ble_eq_true rfl) (lv := [(0, .ref 245), (1, .int x1), (2, .int x2), (3, .int x3)]) rfl ?_
  refine ev_iload_n 3 dX10_doesFit_0 rfl ?_
  refine ev_aload_n 0 dX10_doesFit_1 rfl ?_
  refine ev_getR (r := 266) G10 lay_245 (k := 28) rfl (Nat.le_of_ble_eq_true rfl) dX10_doesFit_2 w_1254 ?_
  refine ev_iload_n 1 dX10_doesFit_5 rfl ?_
  have hb6 := h.1
  replace h := h.2
  refine ev_iald lay_266 (Nat.le_of_ble_eq_true rfl) hb6 dX10_doesFit_6 ?_
  refine ev_iadd dX10_doesFit_7 ?_
  refine ev_aload_n 0 dX10_doesFit_8 rfl ?_
  refine ev_getR (r := 248) G10 lay_245 (k := 5) rfl (Nat.le_of_ble_eq_true rfl) dX10_doesFit_9 w_1231 ?_
  refine ev_iload_n 2 dX10_doesFit_12 rfl ?_
  have hb13 := h.1
  replace h := h.2
  refine ev_iald lay_248 (Nat.le_of_ble_eq_true rfl) hb13 dX10_doesFit_13 ?_
  refine ev_icmp_le 19 dX10_doesFit_14 (by decide) (fun c9 => ?_) (fun c9 => ?_)
  · replace h := h.1 c9
    refine ev_iconst 0 dX10_doesFit_19 (by decide) ?_
    refine ev_istore (lv' := [(4, .int 0), (0, .ref 245), (1, .int x1), (2, .int x2), (3, .int x3)]) dX10_doesFit_20 (Nat.le_of_ble_eq_true rfl) rfl ?_
    refine ev_sub [1, 2, 3, 4, 0] rfl ?_
    exact h
  · replace h := h.2 c9
    refine ev_iconst 0 dX10_doesFit_17 (by decide) ?_
    exact ev_zret (ty := .boolean) rfl (by rfl) dX10_doesFit_18 h
theorem BX10_doesFit_22 {N : Nat} {σ : Sg} {Q : Option Value → Sg → Prop} {x1 : Int32} {x2 : Int32} {x3 : Int32} {x4 : Int32} (h : vp_in x1 4 ∧ (((σ.1 266 (x1).toNatClampNeg) ≤ x4 → EvM (N + 1) mX10_doAgree [.ref 245, .int x1, .int x2, .int x3, .int x1, .int x2, .int x3] σ (fun r9 σ1 => ∃ v1, r9 = some (.int v1) ∧ (narrow .boolean (.int v1) = .int v1 ∧ Q (some (.int v1)) σ1))) ∧ (¬ (σ.1 266 (x1).toNatClampNeg) ≤ x4 → EvM (N + 1) mX10_at [.ref 245, .int x2, .int (x3 + x4)] σ (fun r9 σ2 => ∃ v2, r9 = some (.int v2) ∧ ((0 ≤ v2 → KX10_doesFit_22 N σ2 Q x1 x2 x3 (x4 + 1)) ∧ (¬ 0 ≤ v2 → Q (some (.int 0)) σ2)))))) : KX10_doesFit_22 N σ Q x1 x2 x3 x4 := by
  refine ev_iload 4 dX10_doesFit_22 rfl ?_
  refine ev_aload_n 0 dX10_doesFit_24 rfl ?_
  refine ev_getR (r := 266) G10 lay_245 (k := 28) rfl (Nat.le_of_ble_eq_true rfl) dX10_doesFit_25 w_1254 ?_
  refine ev_iload_n 1 dX10_doesFit_28 rfl ?_
  have hb29 := h.1
  replace h := h.2
  refine ev_iald lay_266 (Nat.le_of_ble_eq_true rfl) hb29 dX10_doesFit_29 ?_
  refine ev_icmp_ge 53 dX10_doesFit_30 (by decide) (fun c9 => ?_) (fun c9 => ?_)
  · replace h := h.1 c9
    refine ev_aload_n 0 dX10_doesFit_53 rfl ?_
    refine ev_iload_n 1 dX10_doesFit_54 rfl ?_
    refine ev_iload_n 2 dX10_doesFit_55 rfl ?_
    refine ev_iload_n 3 dX10_doesFit_56 rfl ?_
    refine ev_iload_n 1 dX10_doesFit_57 rfl ?_
    refine ev_iload_n 2 dX10_doesFit_58 rfl ?_
    refine ev_iload_n 3 dX10_doesFit_59 rfl ?_
    refine ev_callV (M' := mX10_doAgree) [.int x1, .int x2, .int x3, .int x1, .int x2, .int x3] vX10_doAgree G10 lay_245 dX10_doesFit_60 w_1604 rfl rfl (Nat.le_of_ble_eq_true rfl) h ?_
    rintro r9 σ1 ⟨v1, rfl, h⟩
    exact ev_zret (ty := .boolean) rfl (by exact h.1) dX10_doesFit_63 h.2
  · replace h := h.2 c9
    refine ev_aload_n 0 dX10_doesFit_33 rfl ?_
    refine ev_iload_n 2 dX10_doesFit_34 rfl ?_
    refine ev_iload_n 3 dX10_doesFit_35 rfl ?_
    refine ev_iload 4 dX10_doesFit_36 rfl ?_
    refine ev_iadd dX10_doesFit_38 ?_
    refine ev_callV (M' := mX10_at) [.int x2, .int (x3 + x4)] vX10_at G10 lay_245 dX10_doesFit_39 w_1471 rfl rfl (Nat.le_of_ble_eq_true rfl) h ?_
    rintro r9 σ2 ⟨v2, rfl, h⟩
    refine ev_if_ge 47 dX10_doesFit_42 (by decide) (fun c9 => ?_) (fun c9 => ?_)
    · replace h := h.1 c9
      refine ev_iinc (lv' := [(4, .int (x4 + 1)), (0, .ref 245), (1, .int x1), (2, .int x2), (3, .int x3)]) (x4 + 1) 4 dX10_doesFit_47 rfl rfl (Nat.le_of_ble_eq_true rfl) rfl ?_
      refine ev_goto 22 dX10_doesFit_50 (by decide) ?_
      refine ev_sub [1, 2, 3, 4, 0] rfl ?_
      exact h
    · replace h := h.2 c9
      refine ev_iconst 0 dX10_doesFit_45 (by decide) ?_
      exact ev_zret (ty := .boolean) rfl (by rfl) dX10_doesFit_46 h
abbrev KX10_dragged_52 (N : Nat) (σ : Sg) (Q : Option Value → Sg → Prop) (x1 : Int32) (x2 : Int32) (x3 : Int32) (x4 : Int32) (x5 : Int32) (x6 : Int32) (x7 : Int32) : Prop := Ev (N + 3) mX10_dragged 52 [(0, .ref 245), (1, .int x1), (2, .int x2), (3, .int x3), (4, .int x4), (5, .int x5), (6, .int x6), (7, .int x7)] [] σ Q
theorem EX10_dragged {N : Nat} {σ : Sg} {Q : Option Value → Sg → Prop} {x1 : Int32} {x2 : Int32} {x3 : Int32} (h : EvM (N + 2) mX10_isName [.ref 245, .int x1] σ (fun r9 σ1 => ∃ v1, r9 = some (.int v1) ∧ ((v1 = 0 → Q (some (.int (-1))) σ1) ∧ (¬ v1 = 0 → EvM (N + 2) mX10_isText [.ref 245, .int x2] σ1 (fun r9 σ2 => ∃ v2, r9 = some (.int v2) ∧ ((v2 = 0 → Q (some (.int (-1))) σ2) ∧ (¬ v2 = 0 → ((0 ≤ ((x3).toInt64).toInt ∧ ((x3).toInt64).toInt ≤ 2) → EvM (N + 2) mX10_findSigns [.ref 245, .int (σ2.1 245 2)] σ2 (fun r9 σ3 => r9 = none ∧ (KX10_dragged_52 N σ3 Q x1 x2 x3 0 (-4) (-4) 0))) ∧ (¬ (0 ≤ ((x3).toInt64).toInt ∧ ((x3).toInt64).toInt ≤ 2) → Q (some (.int (-1))) σ2)))))))) : EvM (N + 3) mX10_dragged [.ref 245, .int x1, .int x2, .int x3] σ Q := by
  refine ev_entry rfl (Nat.le_of_ble_eq_true rfl) (lv := [(0, .ref 245), (1, .int x1), (2, .int x2), (3, .int x3)]) rfl ?_
  refine ev_aload_n 0 dX10_dragged_0 rfl ?_
  refine ev_iload_n 1 dX10_dragged_1 rfl ?_
  refine ev_callV (M' := mX10_isName) [.int x1] vX10_isName G10 lay_245 dX10_dragged_2 w_1596 rfl rfl (Nat.le_of_ble_eq_true rfl) h ?_
  rintro r9 σ1 ⟨v1, rfl, h⟩
  refine ev_if_eq 28 dX10_dragged_5 (by decide) (fun c9 => ?_) (fun c9 => ?_)
  · replace h := h.1 c9
    refine ev_iconst (-1) dX10_dragged_28 (by decide) ?_
    exact ev_iret rfl dX10_dragged_29 h
  · replace h := h.2 c9
    refine ev_aload_n 0 dX10_dragged_8 rfl ?_
    refine ev_iload_n 2 dX10_dragged_9 rfl ?_
    refine ev_callV (M' := mX10_isText) [.int x2] vX10_isText G10 lay_245 dX10_dragged_10 w_1461 rfl rfl (Nat.le_of_ble_eq_true rfl) h ?_
    rintro r9 σ2 ⟨v2, rfl, h⟩
    refine ev_if_eq 28 dX10_dragged_13 (by decide) (fun c9 => ?_) (fun c9 => ?_)
    · replace h := h.1 c9
      refine ev_iconst (-1) dX10_dragged_28 (by decide) ?_
      exact ev_iret rfl dX10_dragged_29 h
    · replace h := h.2 c9
      refine ev_iload_n 3 dX10_dragged_16 rfl ?_
      refine ev_i2l dX10_dragged_17 ?_
      refine ev_lconst 0 dX10_dragged_18 (by decide) ?_
      refine ev_ldc2 2 dX10_dragged_19 w_1504 ?_
      refine ev_callS (M' := mX10_in) [.long ((x3).toInt64), .long 0, .long 2] vX10_in dX10_dragged_22 w_1421 rfl rfl (Nat.le_of_ble_eq_true rfl) (C10_in (P := 0 ≤ ((x3).toInt64).toInt ∧ ((x3).toInt64).toInt ≤ 2) (by (try simp only [i_l]); exact Iff.rfl) (Q := fun r9 s9 => σ2 = s9 ∧ ((r9 = some (.int 1) ∧ (0 ≤ ((x3).toInt64).toInt ∧ ((x3).toInt64).toInt ≤ 2)) ∨ (r9 = some (.int 0) ∧ ¬ (0 ≤ ((x3).toInt64).toInt ∧ ((x3).toInt64).toInt ≤ 2)))) ⟨fun c9 => ⟨rfl, Or.inl ⟨rfl, c9⟩⟩, fun c9 => ⟨rfl, Or.inr ⟨rfl, c9⟩⟩⟩) ?_
      rintro r9 s9 ⟨rfl, ⟨rfl, c9⟩ | ⟨rfl, c9⟩⟩
      · replace h := h.1 c9
        refine ev_if_ne 30 dX10_dragged_25 (by decide) (fun c9 => ?_) (fun c9 => ?_)
        · refine ev_aload_n 0 dX10_dragged_30 rfl ?_
          refine ev_aload_n 0 dX10_dragged_31 rfl ?_
          refine ev_get G10 lay_245 (k := 2) rfl (Nat.le_of_ble_eq_true rfl) dX10_dragged_32 w_1228 ?_
          refine ev_callV (M' := mX10_findSigns) [.int (σ2.1 245 2)] vX10_findSigns G10 lay_245 dX10_dragged_35 w_1433 rfl rfl (Nat.le_of_ble_eq_true rfl) h ?_
          rintro r9 σ3 ⟨rfl, h⟩
          refine ev_iconst 0 dX10_dragged_38 (by decide) ?_
          refine ev_istore (lv' := [(4, .int 0), (0, .ref 245), (1, .int x1), (2, .int x2), (3, .int x3)]) dX10_dragged_39 (Nat.le_of_ble_eq_true rfl) rfl ?_
          refine ev_bipush (-4) dX10_dragged_41 (by decide) ?_
          refine ev_istore (lv' := [(5, .int (-4)), (4, .int 0), (0, .ref 245), (1, .int x1), (2, .int x2), (3, .int x3)]) dX10_dragged_43 (Nat.le_of_ble_eq_true rfl) rfl ?_
          refine ev_bipush (-4) dX10_dragged_45 (by decide) ?_
          refine ev_istore (lv' := [(6, .int (-4)), (5, .int (-4)), (4, .int 0), (0, .ref 245), (1, .int x1), (2, .int x2), (3, .int x3)]) dX10_dragged_47 (Nat.le_of_ble_eq_true rfl) rfl ?_
          refine ev_iconst 0 dX10_dragged_49 (by decide) ?_
          refine ev_istore (lv' := [(7, .int 0), (6, .int (-4)), (5, .int (-4)), (4, .int 0), (0, .ref 245), (1, .int x1), (2, .int x2), (3, .int x3)]) dX10_dragged_50 (Nat.le_of_ble_eq_true rfl) rfl ?_
          refine ev_sub [4, 5, 6, 7, 3, 2, 1, 0] rfl ?_
          exact h
        · exact absurd c9 (by decide)
      · replace h := h.2 c9
        refine ev_if_ne 30 dX10_dragged_25 (by decide) (fun c9 => ?_) (fun c9 => ?_)
        · exact absurd c9 (by decide)
        · refine ev_iconst (-1) dX10_dragged_28 (by decide) ?_
          exact ev_iret rfl dX10_dragged_29 h
theorem BX10_dragged_52 {N : Nat} {σ : Sg} {Q : Option Value → Sg → Prop} {x1 : Int32} {x2 : Int32} {x3 : Int32} {x4 : Int32} {x5 : Int32} {x6 : Int32} {x7 : Int32} (h : vp_in x2 8 ∧ (((σ.1 248 (x2).toNatClampNeg) ≤ x7 → (x3 = 0 → Q (some (.int x4)) σ) ∧ (¬ x3 = 0 → (x3 = 1 → Q (some (.int x5)) σ) ∧ (¬ x3 = 1 → Q (some (.int x6)) σ))) ∧ (¬ (σ.1 248 (x2).toNatClampNeg) ≤ x7 → EvM (N + 2) mX10_doesFit [.ref 245, .int x1, .int x2, .int x7] σ (fun r9 σ4 => ∃ v4, r9 = some (.int v4) ∧ ((v4 = 0 → KX10_dragged_52 N σ4 Q x1 x2 x3 x4 x5 x6 (x7 + 1)) ∧ (¬ v4 = 0 → (x5 = (-4) → KX10_dragged_52 N σ4 Q x1 x2 x3 (x4 + 1) x7 x7 (x7 + 1)) ∧ (¬ x5 = (-4) → KX10_dragged_52 N σ4 Q x1 x2 x3 (x4 + 1) x5 x7 (x7 + 1)))))))) : KX10_dragged_52 N σ Q x1 x2 x3 x4 x5 x6 x7 := by
  refine ev_iload 7 dX10_dragged_52 rfl ?_
  refine ev_aload_n 0 dX10_dragged_54 rfl ?_
  refine ev_getR (r := 248) G10 lay_245 (k := 5) rfl (Nat.le_of_ble_eq_true rfl) dX10_dragged_55 w_1231 ?_
  refine ev_iload_n 2 dX10_dragged_58 rfl ?_
  have hb59 := h.1
  replace h := h.2
  refine ev_iald lay_248 (Nat.le_of_ble_eq_true rfl) hb59 dX10_dragged_59 ?_
  refine ev_icmp_ge 103 dX10_dragged_60 (by decide) (fun c9 => ?_) (fun c9 => ?_)
  · replace h := h.1 c9
    refine ev_iload_n 3 dX10_dragged_103 rfl ?_
    refine ev_if_ne 112 dX10_dragged_104 (by decide) (fun c9 => ?_) (fun c9 => ?_)
    · replace h := h.2 c9
      refine ev_iload_n 3 dX10_dragged_112 rfl ?_
      refine ev_iconst 1 dX10_dragged_113 (by decide) ?_
      refine ev_icmp_ne 122 dX10_dragged_114 (by decide) (fun c9 => ?_) (fun c9 => ?_)
      · replace h := h.2 c9
        refine ev_iload 6 dX10_dragged_122 rfl ?_
        exact ev_iret rfl dX10_dragged_124 h
      · replace h := h.1 c9
        refine ev_iload 5 dX10_dragged_117 rfl ?_
        refine ev_goto 124 dX10_dragged_119 (by decide) ?_
        exact ev_iret rfl dX10_dragged_124 h
    · replace h := h.1 c9
      refine ev_iload 4 dX10_dragged_107 rfl ?_
      refine ev_goto 124 dX10_dragged_109 (by decide) ?_
      exact ev_iret rfl dX10_dragged_124 h
  · replace h := h.2 c9
    refine ev_aload_n 0 dX10_dragged_63 rfl ?_
    refine ev_iload_n 1 dX10_dragged_64 rfl ?_
    refine ev_iload_n 2 dX10_dragged_65 rfl ?_
    refine ev_iload 7 dX10_dragged_66 rfl ?_
    refine ev_callV (M' := mX10_doesFit) [.int x1, .int x2, .int x7] vX10_doesFit G10 lay_245 dX10_dragged_68 w_1600 rfl rfl (Nat.le_of_ble_eq_true rfl) h ?_
    rintro r9 σ4 ⟨v4, rfl, h⟩
    refine ev_if_eq 97 dX10_dragged_71 (by decide) (fun c9 => ?_) (fun c9 => ?_)
    · replace h := h.1 c9
      refine ev_iinc (lv' := [(7, .int (x7 + 1)), (0, .ref 245), (1, .int x1), (2, .int x2), (3, .int x3), (4, .int x4), (5, .int x5), (6, .int x6)]) (x7 + 1) 7 dX10_dragged_97 rfl rfl (Nat.le_of_ble_eq_true rfl) rfl ?_
      refine ev_goto 52 dX10_dragged_100 (by decide) ?_
      refine ev_sub [1, 2, 3, 4, 5, 6, 7, 0] rfl ?_
      exact h
    · replace h := h.2 c9
      refine ev_iinc (lv' := [(4, .int (x4 + 1)), (0, .ref 245), (1, .int x1), (2, .int x2), (3, .int x3), (5, .int x5), (6, .int x6), (7, .int x7)]) (x4 + 1) 4 dX10_dragged_74 rfl rfl (Nat.le_of_ble_eq_true rfl) rfl ?_
      refine ev_iload 5 dX10_dragged_77 rfl ?_
      refine ev_bipush (-4) dX10_dragged_79 (by decide) ?_
      refine ev_icmp_ne 89 dX10_dragged_81 (by decide) (fun c9 => ?_) (fun c9 => ?_)
      · replace h := h.2 c9
        refine ev_iload 5 dX10_dragged_89 rfl ?_
        refine ev_istore (lv' := [(5, .int x5), (4, .int (x4 + 1)), (0, .ref 245), (1, .int x1), (2, .int x2), (3, .int x3), (6, .int x6), (7, .int x7)]) dX10_dragged_91 (Nat.le_of_ble_eq_true rfl) rfl ?_
        refine ev_iload 7 dX10_dragged_93 rfl ?_
        refine ev_istore (lv' := [(6, .int x7), (5, .int x5), (4, .int (x4 + 1)), (0, .ref 245), (1, .int x1), (2, .int x2), (3, .int x3), (7, .int x7)]) dX10_dragged_95 (Nat.le_of_ble_eq_true rfl) rfl ?_
        refine ev_iinc (lv' := [(7, .int (x7 + 1)), (6, .int x7), (5, .int x5), (4, .int (x4 + 1)), (0, .ref 245), (1, .int x1), (2, .int x2), (3, .int x3)]) (x7 + 1) 7 dX10_dragged_97 rfl rfl (Nat.le_of_ble_eq_true rfl) rfl ?_
        refine ev_goto 52 dX10_dragged_100 (by decide) ?_
        refine ev_sub [4, 5, 6, 7, 3, 2, 1, 0] rfl ?_
        exact h
      · replace h := h.1 c9
        refine ev_iload 7 dX10_dragged_84 rfl ?_
        refine ev_goto 91 dX10_dragged_86 (by decide) ?_
        refine ev_istore (lv' := [(5, .int x7), (4, .int (x4 + 1)), (0, .ref 245), (1, .int x1), (2, .int x2), (3, .int x3), (6, .int x6), (7, .int x7)]) dX10_dragged_91 (Nat.le_of_ble_eq_true rfl) rfl ?_
        refine ev_iload 7 dX10_dragged_93 rfl ?_
        refine ev_istore (lv' := [(6, .int x7), (5, .int x7), (4, .int (x4 + 1)), (0, .ref 245), (1, .int x1), (2, .int x2), (3, .int x3), (7, .int x7)]) dX10_dragged_95 (Nat.le_of_ble_eq_true rfl) rfl ?_
        refine ev_iinc (lv' := [(7, .int (x7 + 1)), (6, .int x7), (5, .int x7), (4, .int (x4 + 1)), (0, .ref 245), (1, .int x1), (2, .int x2), (3, .int x3)]) (x7 + 1) 7 dX10_dragged_97 rfl rfl (Nat.le_of_ble_eq_true rfl) rfl ?_
        refine ev_goto 52 dX10_dragged_100 (by decide) ?_
        refine ev_sub [4, 5, 6, 7, 3, 2, 1, 0] rfl ?_
        exact h
abbrev KX10_together_49 (N : Nat) (σ : Sg) (Q : Option Value → Sg → Prop) (x1 : Int32) (x2 : Int32) (x3 : Int32) (x4 : Int32) (x5 : Int32) (x6 : Int32) : Prop := Ev (N + 3) mX10_together 49 [(0, .ref 245), (1, .int x1), (2, .int x2), (3, .int x3), (4, .int x4), (5, .int x5), (6, .int x6)] [] σ Q
abbrev KX10_together_63 (N : Nat) (σ : Sg) (Q : Option Value → Sg → Prop) (x1 : Int32) (x2 : Int32) (x3 : Int32) (x4 : Int32) (x5 : Int32) (x6 : Int32) (x7 : Int32) : Prop := Ev (N + 3) mX10_together 63 [(0, .ref 245), (1, .int x1), (2, .int x2), (3, .int x3), (4, .int x4), (5, .int x5), (6, .int x6), (7, .int x7)] [] σ Q
theorem EX10_together {N : Nat} {σ : Sg} {Q : Option Value → Sg → Prop} {x1 : Int32} {x2 : Int32} {x3 : Int32} {x4 : Int32} (h : EvM (N + 2) mX10_isName [.ref 245, .int x1] σ (fun r9 σ1 => ∃ v1, r9 = some (.int v1) ∧ ((v1 = 0 → Q (some (.int (-1))) σ1) ∧ (¬ v1 = 0 → EvM (N + 2) mX10_isText [.ref 245, .int x2] σ1 (fun r9 σ2 => ∃ v2, r9 = some (.int v2) ∧ ((v2 = 0 → Q (some (.int (-1))) σ2) ∧ (¬ v2 = 0 → EvM (N + 2) mX10_isName [.ref 245, .int x3] σ2 (fun r9 σ3 => ∃ v3, r9 = some (.int v3) ∧ ((v3 = 0 → Q (some (.int (-1))) σ3) ∧ (¬ v3 = 0 → EvM (N + 2) mX10_isText [.ref 245, .int x4] σ3 (fun r9 σ4 => ∃ v4, r9 = some (.int v4) ∧ ((v4 = 0 → Q (some (.int (-1))) σ4) ∧ (¬ v4 = 0 → EvM (N + 2) mX10_findSigns [.ref 245, .int (σ4.1 245 2)] σ4 (fun r9 σ5 => r9 = none ∧ (KX10_together_49 N σ5 Q x1 x2 x3 x4 0 0))))))))))))))) : EvM (N + 3) mX10_together [.ref 245, .int x1, .int x2, .int x3, .int x4] σ Q := by
  refine ev_entry rfl (Nat.le_of_ble_eq_true rfl) (lv := [(0, .ref 245), (1, .int x1), (2, .int x2), (3, .int x3), (4, .int x4)]) rfl ?_
  refine ev_aload_n 0 dX10_together_0 rfl ?_
  refine ev_iload_n 1 dX10_together_1 rfl ?_
  refine ev_callV (M' := mX10_isName) [.int x1] vX10_isName G10 lay_245 dX10_together_2 w_1596 rfl rfl (Nat.le_of_ble_eq_true rfl) h ?_
  rintro r9 σ1 ⟨v1, rfl, h⟩
  refine ev_if_eq 33 dX10_together_5 (by decide) (fun c9 => ?_) (fun c9 => ?_)
  · replace h := h.1 c9
    refine ev_iconst (-1) dX10_together_33 (by decide) ?_
    exact ev_iret rfl dX10_together_34 h
  · replace h := h.2 c9
    refine ev_aload_n 0 dX10_together_8 rfl ?_
    refine ev_iload_n 2 dX10_together_9 rfl ?_
    refine ev_callV (M' := mX10_isText) [.int x2] vX10_isText G10 lay_245 dX10_together_10 w_1461 rfl rfl (Nat.le_of_ble_eq_true rfl) h ?_
    rintro r9 σ2 ⟨v2, rfl, h⟩
    refine ev_if_eq 33 dX10_together_13 (by decide) (fun c9 => ?_) (fun c9 => ?_)
    · replace h := h.1 c9
      refine ev_iconst (-1) dX10_together_33 (by decide) ?_
      exact ev_iret rfl dX10_together_34 h
    · replace h := h.2 c9
      refine ev_aload_n 0 dX10_together_16 rfl ?_
      refine ev_iload_n 3 dX10_together_17 rfl ?_
      refine ev_callV (M' := mX10_isName) [.int x3] vX10_isName G10 lay_245 dX10_together_18 w_1596 rfl rfl (Nat.le_of_ble_eq_true rfl) h ?_
      rintro r9 σ3 ⟨v3, rfl, h⟩
      refine ev_if_eq 33 dX10_together_21 (by decide) (fun c9 => ?_) (fun c9 => ?_)
      · replace h := h.1 c9
        refine ev_iconst (-1) dX10_together_33 (by decide) ?_
        exact ev_iret rfl dX10_together_34 h
      · replace h := h.2 c9
        refine ev_aload_n 0 dX10_together_24 rfl ?_
        refine ev_iload 4 dX10_together_25 rfl ?_
        refine ev_callV (M' := mX10_isText) [.int x4] vX10_isText G10 lay_245 dX10_together_27 w_1461 rfl rfl (Nat.le_of_ble_eq_true rfl) h ?_
        rintro r9 σ4 ⟨v4, rfl, h⟩
        refine ev_if_ne 35 dX10_together_30 (by decide) (fun c9 => ?_) (fun c9 => ?_)
        · replace h := h.2 c9
          refine ev_aload_n 0 dX10_together_35 rfl ?_
          refine ev_aload_n 0 dX10_together_36 rfl ?_
          refine ev_get G10 lay_245 (k := 2) rfl (Nat.le_of_ble_eq_true rfl) dX10_together_37 w_1228 ?_
          refine ev_callV (M' := mX10_findSigns) [.int (σ4.1 245 2)] vX10_findSigns G10 lay_245 dX10_together_40 w_1433 rfl rfl (Nat.le_of_ble_eq_true rfl) h ?_
          rintro r9 σ5 ⟨rfl, h⟩
          refine ev_iconst 0 dX10_together_43 (by decide) ?_
          refine ev_istore (lv' := [(5, .int 0), (0, .ref 245), (1, .int x1), (2, .int x2), (3, .int x3), (4, .int x4)]) dX10_together_44 (Nat.le_of_ble_eq_true rfl) rfl ?_
          refine ev_iconst 0 dX10_together_46 (by decide) ?_
          refine ev_istore (lv' := [(6, .int 0), (5, .int 0), (0, .ref 245), (1, .int x1), (2, .int x2), (3, .int x3), (4, .int x4)]) dX10_together_47 (Nat.le_of_ble_eq_true rfl) rfl ?_
          refine ev_sub [2, 3, 4, 5, 6, 1, 0] rfl ?_
          exact h
        · replace h := h.1 c9
          refine ev_iconst (-1) dX10_together_33 (by decide) ?_
          exact ev_iret rfl dX10_together_34 h
theorem BX10_together_49 {N : Nat} {σ : Sg} {Q : Option Value → Sg → Prop} {x1 : Int32} {x2 : Int32} {x3 : Int32} {x4 : Int32} {x5 : Int32} {x6 : Int32} (h : vp_in x2 8 ∧ (((σ.1 248 (x2).toNatClampNeg) ≤ x6 → Q (some (.int x5)) σ) ∧ (¬ (σ.1 248 (x2).toNatClampNeg) ≤ x6 → KX10_together_63 N σ Q x1 x2 x3 x4 x5 x6 0))) : KX10_together_49 N σ Q x1 x2 x3 x4 x5 x6 := by
  refine ev_iload 6 dX10_together_49 rfl ?_
  refine ev_aload_n 0 dX10_together_51 rfl ?_
  refine ev_getR (r := 248) G10 lay_245 (k := 5) rfl (Nat.le_of_ble_eq_true rfl) dX10_together_52 w_1231 ?_
  refine ev_iload_n 2 dX10_together_55 rfl ?_
  have hb56 := h.1
  replace h := h.2
  refine ev_iald lay_248 (Nat.le_of_ble_eq_true rfl) hb56 dX10_together_56 ?_
  refine ev_icmp_ge 136 dX10_together_57 (by decide) (fun c9 => ?_) (fun c9 => ?_)
  · replace h := h.1 c9
    refine ev_iload 5 dX10_together_136 rfl ?_
    exact ev_iret rfl dX10_together_138 h
  · replace h := h.2 c9
    refine ev_iconst 0 dX10_together_60 (by decide) ?_
    refine ev_istore (lv' := [(7, .int 0), (0, .ref 245), (1, .int x1), (2, .int x2), (3, .int x3), (4, .int x4), (5, .int x5), (6, .int x6)]) dX10_together_61 (Nat.le_of_ble_eq_true rfl) rfl ?_
    refine ev_sub [1, 2, 3, 4, 5, 6, 7, 0] rfl ?_
    exact h
theorem BX10_together_63 {N : Nat} {σ : Sg} {Q : Option Value → Sg → Prop} {x1 : Int32} {x2 : Int32} {x3 : Int32} {x4 : Int32} {x5 : Int32} {x6 : Int32} {x7 : Int32} (h : vp_in x4 8 ∧ (((σ.1 248 (x4).toNatClampNeg) ≤ x7 → KX10_together_49 N σ Q x1 x2 x3 x4 x5 (x6 + 1)) ∧ (¬ (σ.1 248 (x4).toNatClampNeg) ≤ x7 → EvM (N + 2) mX10_doesFit [.ref 245, .int x1, .int x2, .int x6] σ (fun r9 σ6 => ∃ v6, r9 = some (.int v6) ∧ ((v6 = 0 → KX10_together_49 N σ6 Q x1 x2 x3 x4 x5 (x6 + 1)) ∧ (¬ v6 = 0 → EvM (N + 2) mX10_doesFit [.ref 245, .int x3, .int x4, .int x7] σ6 (fun r9 σ7 => ∃ v7, r9 = some (.int v7) ∧ ((v7 = 0 → KX10_together_63 N σ7 Q x1 x2 x3 x4 (x5 + 0) x6 (x7 + 1)) ∧ (¬ v7 = 0 → EvM (N + 2) mX10_doAgree [.ref 245, .int x1, .int x2, .int x6, .int x3, .int x4, .int x7] σ7 (fun r9 σ8 => ∃ v8, r9 = some (.int v8) ∧ ((v8 = 0 → KX10_together_63 N σ8 Q x1 x2 x3 x4 (x5 + 0) x6 (x7 + 1)) ∧ (¬ v8 = 0 → KX10_together_63 N σ8 Q x1 x2 x3 x4 (x5 + 1) x6 (x7 + 1))))))))))))) : KX10_together_63 N σ Q x1 x2 x3 x4 x5 x6 x7 := by
  refine ev_iload 7 dX10_together_63 rfl ?_
  refine ev_aload_n 0 dX10_together_65 rfl ?_
  refine ev_getR (r := 248) G10 lay_245 (k := 5) rfl (Nat.le_of_ble_eq_true rfl) dX10_together_66 w_1231 ?_
  refine ev_iload 4 dX10_together_69 rfl ?_
  have hb71 := h.1
  replace h := h.2
  refine ev_iald lay_248 (Nat.le_of_ble_eq_true rfl) hb71 dX10_together_71 ?_
  refine ev_icmp_ge 130 dX10_together_72 (by decide) (fun c9 => ?_) (fun c9 => ?_)
  · replace h := h.1 c9
    refine ev_iinc (lv' := [(6, .int (x6 + 1)), (0, .ref 245), (1, .int x1), (2, .int x2), (3, .int x3), (4, .int x4), (5, .int x5), (7, .int x7)]) (x6 + 1) 6 dX10_together_130 rfl rfl (Nat.le_of_ble_eq_true rfl) rfl ?_
    refine ev_goto 49 dX10_together_133 (by decide) ?_
    refine ev_sub [1, 2, 3, 4, 5, 6, 0] rfl ?_
    exact h
  · replace h := h.2 c9
    refine ev_aload_n 0 dX10_together_75 rfl ?_
    refine ev_iload_n 1 dX10_together_76 rfl ?_
    refine ev_iload_n 2 dX10_together_77 rfl ?_
    refine ev_iload 6 dX10_together_78 rfl ?_
    refine ev_callV (M' := mX10_doesFit) [.int x1, .int x2, .int x6] vX10_doesFit G10 lay_245 dX10_together_80 w_1600 rfl rfl (Nat.le_of_ble_eq_true rfl) h ?_
    rintro r9 σ6 ⟨v6, rfl, h⟩
    refine ev_if_eq 130 dX10_together_83 (by decide) (fun c9 => ?_) (fun c9 => ?_)
    · replace h := h.1 c9
      refine ev_iinc (lv' := [(6, .int (x6 + 1)), (0, .ref 245), (1, .int x1), (2, .int x2), (3, .int x3), (4, .int x4), (5, .int x5), (7, .int x7)]) (x6 + 1) 6 dX10_together_130 rfl rfl (Nat.le_of_ble_eq_true rfl) rfl ?_
      refine ev_goto 49 dX10_together_133 (by decide) ?_
      refine ev_sub [1, 2, 3, 4, 5, 6, 0] rfl ?_
      exact h
    · replace h := h.2 c9
      refine ev_iload 5 dX10_together_86 rfl ?_
      refine ev_aload_n 0 dX10_together_88 rfl ?_
      refine ev_iload_n 3 dX10_together_89 rfl ?_
      refine ev_iload 4 dX10_together_90 rfl ?_
      refine ev_iload 7 dX10_together_92 rfl ?_
      refine ev_callV (M' := mX10_doesFit) [.int x3, .int x4, .int x7] vX10_doesFit G10 lay_245 dX10_together_94 w_1600 rfl rfl (Nat.le_of_ble_eq_true rfl) h ?_
      rintro r9 σ7 ⟨v7, rfl, h⟩
      refine ev_if_eq 120 dX10_together_97 (by decide) (fun c9 => ?_) (fun c9 => ?_)
      · replace h := h.1 c9
        refine ev_iconst 0 dX10_together_120 (by decide) ?_
        refine ev_iadd dX10_together_121 ?_
        refine ev_istore (lv' := [(5, .int (x5 + 0)), (0, .ref 245), (1, .int x1), (2, .int x2), (3, .int x3), (4, .int x4), (6, .int x6), (7, .int x7)]) dX10_together_122 (Nat.le_of_ble_eq_true rfl) rfl ?_
        refine ev_iinc (lv' := [(7, .int (x7 + 1)), (5, .int (x5 + 0)), (0, .ref 245), (1, .int x1), (2, .int x2), (3, .int x3), (4, .int x4), (6, .int x6)]) (x7 + 1) 7 dX10_together_124 rfl rfl (Nat.le_of_ble_eq_true rfl) rfl ?_
        refine ev_goto 63 dX10_together_127 (by decide) ?_
        refine ev_sub [2, 3, 4, 5, 6, 1, 7, 0] rfl ?_
        exact h
      · replace h := h.2 c9
        refine ev_aload_n 0 dX10_together_100 rfl ?_
        refine ev_iload_n 1 dX10_together_101 rfl ?_
        refine ev_iload_n 2 dX10_together_102 rfl ?_
        refine ev_iload 6 dX10_together_103 rfl ?_
        refine ev_iload_n 3 dX10_together_105 rfl ?_
        refine ev_iload 4 dX10_together_106 rfl ?_
        refine ev_iload 7 dX10_together_108 rfl ?_
        refine ev_callV (M' := mX10_doAgree) [.int x1, .int x2, .int x6, .int x3, .int x4, .int x7] vX10_doAgree G10 lay_245 dX10_together_110 w_1604 rfl rfl (Nat.le_of_ble_eq_true rfl) h ?_
        rintro r9 σ8 ⟨v8, rfl, h⟩
        refine ev_if_eq 120 dX10_together_113 (by decide) (fun c9 => ?_) (fun c9 => ?_)
        · replace h := h.1 c9
          refine ev_iconst 0 dX10_together_120 (by decide) ?_
          refine ev_iadd dX10_together_121 ?_
          refine ev_istore (lv' := [(5, .int (x5 + 0)), (0, .ref 245), (1, .int x1), (2, .int x2), (3, .int x3), (4, .int x4), (6, .int x6), (7, .int x7)]) dX10_together_122 (Nat.le_of_ble_eq_true rfl) rfl ?_
          refine ev_iinc (lv' := [(7, .int (x7 + 1)), (5, .int (x5 + 0)), (0, .ref 245), (1, .int x1), (2, .int x2), (3, .int x3), (4, .int x4), (6, .int x6)]) (x7 + 1) 7 dX10_together_124 rfl rfl (Nat.le_of_ble_eq_true rfl) rfl ?_
          refine ev_goto 63 dX10_together_127 (by decide) ?_
          refine ev_sub [2, 3, 4, 5, 6, 1, 7, 0] rfl ?_
          exact h
        · replace h := h.2 c9
          refine ev_iconst 1 dX10_together_116 (by decide) ?_
          refine ev_goto 121 dX10_together_117 (by decide) ?_
          refine ev_iadd dX10_together_121 ?_
          refine ev_istore (lv' := [(5, .int (x5 + 1)), (0, .ref 245), (1, .int x1), (2, .int x2), (3, .int x3), (4, .int x4), (6, .int x6), (7, .int x7)]) dX10_together_122 (Nat.le_of_ble_eq_true rfl) rfl ?_
          refine ev_iinc (lv' := [(7, .int (x7 + 1)), (5, .int (x5 + 1)), (0, .ref 245), (1, .int x1), (2, .int x2), (3, .int x3), (4, .int x4), (6, .int x6)]) (x7 + 1) 7 dX10_together_124 rfl rfl (Nat.le_of_ble_eq_true rfl) rfl ?_
          refine ev_goto 63 dX10_together_127 (by decide) ?_
          refine ev_sub [2, 3, 4, 5, 6, 1, 7, 0] rfl ?_
          exact h
abbrev KX10_word_33 (N : Nat) (σ : Sg) (Q : Option Value → Sg → Prop) (x1 : Int32) (x2 : Int32) (x3 : Int32) : Prop := Ev (N + 1) mX10_word 33 [(0, .ref 245), (1, .int x1), (2, .int x2), (3, .int x3)] [] σ Q
theorem EX10_word {N : Nat} {σ : Sg} {Q : Option Value → Sg → Prop} {x1 : Int32} {x2 : Int32} (h : ((1 ≤ ((x1).toInt64).toInt ∧ ((x1).toInt64).toInt ≤ 6) → ((0 ≤ ((x2).toInt64).toInt ∧ ((x2).toInt64).toInt ≤ (((1 <<< ((2 * x1) &&& 31)) - 1).toInt64).toInt) → KX10_word_33 N σ Q x1 x2 0) ∧ (¬ (0 ≤ ((x2).toInt64).toInt ∧ ((x2).toInt64).toInt ≤ (((1 <<< ((2 * x1) &&& 31)) - 1).toInt64).toInt) → Q (some (.int (-1))) σ)) ∧ (¬ (1 ≤ ((x1).toInt64).toInt ∧ ((x1).toInt64).toInt ≤ 6) → Q (some (.int (-1))) σ)) : EvM (N + 1) mX10_word [.ref 245, .int x1, .int x2] σ Q := by
  refine ev_entry rfl (Nat.le_of_ble_eq_true rfl) (lv := [(0, .ref 245), (1, .int x1), (2, .int x2)]) rfl ?_
  refine ev_iload_n 1 dX10_word_0 rfl ?_
  refine ev_i2l dX10_word_1 ?_
  refine ev_lconst 1 dX10_word_2 (by decide) ?_
  refine ev_ldc2 6 dX10_word_3 w_1620 ?_
  refine ev_callS (M' := mX10_in) [.long ((x1).toInt64), .long 1, .long 6] vX10_in dX10_word_6 w_1421 rfl rfl (Nat.le_of_ble_eq_true rfl) (C10_in (P := 1 ≤ ((x1).toInt64).toInt ∧ ((x1).toInt64).toInt ≤ 6) (by (try simp only [i_l]); exact Iff.rfl) (Q := fun r9 s9 => σ = s9 ∧ ((r9 = some (.int 1) ∧ (1 ≤ ((x1).toInt64).toInt ∧ ((x1).toInt64).toInt ≤ 6)) ∨ (r9 = some (.int 0) ∧ ¬ (1 ≤ ((x1).toInt64).toInt ∧ ((x1).toInt64).toInt ≤ 6)))) ⟨fun c9 => ⟨rfl, Or.inl ⟨rfl, c9⟩⟩, fun c9 => ⟨rfl, Or.inr ⟨rfl, c9⟩⟩⟩) ?_
  rintro r9 s9 ⟨rfl, ⟨rfl, c9⟩ | ⟨rfl, c9⟩⟩
  · replace h := h.1 c9
    refine ev_if_eq 29 dX10_word_9 (by decide) (fun c9 => ?_) (fun c9 => ?_)
    · exact absurd c9 (by decide)
    · refine ev_iload_n 2 dX10_word_12 rfl ?_
      refine ev_i2l dX10_word_13 ?_
      refine ev_lconst 0 dX10_word_14 (by decide) ?_
      refine ev_iconst 1 dX10_word_15 (by decide) ?_
      refine ev_iconst 2 dX10_word_16 (by decide) ?_
      refine ev_iload_n 1 dX10_word_17 rfl ?_
      refine ev_imul dX10_word_18 ?_
      refine ev_ishl dX10_word_19 ?_
      refine ev_iconst 1 dX10_word_20 (by decide) ?_
      refine ev_isub dX10_word_21 ?_
      refine ev_i2l dX10_word_22 ?_
      refine ev_callS (M' := mX10_in) [.long ((x2).toInt64), .long 0, .long (((1 <<< ((2 * x1) &&& 31)) - 1).toInt64)] vX10_in dX10_word_23 w_1421 rfl rfl (Nat.le_of_ble_eq_true rfl) (C10_in (P := 0 ≤ ((x2).toInt64).toInt ∧ ((x2).toInt64).toInt ≤ (((1 <<< ((2 * x1) &&& 31)) - 1).toInt64).toInt) (by (try simp only [i_l]); exact Iff.rfl) (Q := fun r9 s9 => σ = s9 ∧ ((r9 = some (.int 1) ∧ (0 ≤ ((x2).toInt64).toInt ∧ ((x2).toInt64).toInt ≤ (((1 <<< ((2 * x1) &&& 31)) - 1).toInt64).toInt)) ∨ (r9 = some (.int 0) ∧ ¬ (0 ≤ ((x2).toInt64).toInt ∧ ((x2).toInt64).toInt ≤ (((1 <<< ((2 * x1) &&& 31)) - 1).toInt64).toInt)))) ⟨fun c9 => ⟨rfl, Or.inl ⟨rfl, c9⟩⟩, fun c9 => ⟨rfl, Or.inr ⟨rfl, c9⟩⟩⟩) ?_
      rintro r9 s9 ⟨rfl, ⟨rfl, c9⟩ | ⟨rfl, c9⟩⟩
      · replace h := h.1 c9
        refine ev_if_ne 31 dX10_word_26 (by decide) (fun c9 => ?_) (fun c9 => ?_)
        · refine ev_iconst 0 dX10_word_31 (by decide) ?_
          refine ev_istore_n (lv' := [(3, .int 0), (0, .ref 245), (1, .int x1), (2, .int x2)]) dX10_word_32 (Nat.le_of_ble_eq_true rfl) rfl ?_
          refine ev_sub [1, 2, 3, 0] rfl ?_
          exact h
        · exact absurd c9 (by decide)
      · replace h := h.2 c9
        refine ev_if_ne 31 dX10_word_26 (by decide) (fun c9 => ?_) (fun c9 => ?_)
        · exact absurd c9 (by decide)
        · refine ev_iconst (-1) dX10_word_29 (by decide) ?_
          exact ev_iret rfl dX10_word_30 h
  · replace h := h.2 c9
    refine ev_if_eq 29 dX10_word_9 (by decide) (fun c9 => ?_) (fun c9 => ?_)
    · refine ev_iconst (-1) dX10_word_29 (by decide) ?_
      exact ev_iret rfl dX10_word_30 h
    · exact absurd c9 (by decide)
theorem BX10_word_33 {N : Nat} {σ : Sg} {Q : Option Value → Sg → Prop} {x1 : Int32} {x2 : Int32} {x3 : Int32} (h : ((σ.1 245 30) ≤ x3 → ((σ.1 245 30) = 12 → Q (some (.int (-3))) σ) ∧ (¬ (σ.1 245 30) = 12 → vp_in (σ.1 245 30) 12 ∧ (vp_in ((u1 σ 268 (σ.1 245 30).toNatClampNeg x1).1 245 30) 12 ∧ (Q (some (.int (((u1 (u1 (u1 σ 268 (σ.1 245 30).toNatClampNeg x1) 269 ((u1 σ 268 (σ.1 245 30).toNatClampNeg x1).1 245 30).toNatClampNeg x2) 245 30 (((u1 (u1 σ 268 (σ.1 245 30).toNatClampNeg x1) 269 ((u1 σ 268 (σ.1 245 30).toNatClampNeg x1).1 245 30).toNatClampNeg x2).1 245 30) + 1)).1 245 30) - 1))) (u1 (u1 (u1 σ 268 (σ.1 245 30).toNatClampNeg x1) 269 ((u1 σ 268 (σ.1 245 30).toNatClampNeg x1).1 245 30).toNatClampNeg x2) 245 30 (((u1 (u1 σ 268 (σ.1 245 30).toNatClampNeg x1) 269 ((u1 σ 268 (σ.1 245 30).toNatClampNeg x1).1 245 30).toNatClampNeg x2).1 245 30) + 1)))))) ∧ (¬ (σ.1 245 30) ≤ x3 → vp_in x3 12 ∧ (((σ.1 268 (x3).toNatClampNeg) = x1 → vp_in x3 12 ∧ (((σ.1 269 (x3).toNatClampNeg) = x2 → Q (some (.int (-1))) σ) ∧ (¬ (σ.1 269 (x3).toNatClampNeg) = x2 → KX10_word_33 N σ Q x1 x2 (x3 + 1)))) ∧ (¬ (σ.1 268 (x3).toNatClampNeg) = x1 → KX10_word_33 N σ Q x1 x2 (x3 + 1))))) : KX10_word_33 N σ Q x1 x2 x3 := by
  refine ev_iload_n 3 dX10_word_33 rfl ?_
  refine ev_aload_n 0 dX10_word_34 rfl ?_
  refine ev_get G10 lay_245 (k := 30) rfl (Nat.le_of_ble_eq_true rfl) dX10_word_35 w_1256 ?_
  refine ev_icmp_ge 69 dX10_word_38 (by decide) (fun c9 => ?_) (fun c9 => ?_)
  · replace h := h.1 c9
    refine ev_aload_n 0 dX10_word_69 rfl ?_
    refine ev_get G10 lay_245 (k := 30) rfl (Nat.le_of_ble_eq_true rfl) dX10_word_70 w_1256 ?_
    refine ev_bipush 12 dX10_word_73 (by decide) ?_
    refine ev_icmp_ne 81 dX10_word_75 (by decide) (fun c9 => ?_) (fun c9 => ?_)
    · replace h := h.2 c9
      refine ev_aload_n 0 dX10_word_81 rfl ?_
      refine ev_getR (r := 268) G10 lay_245 (k := 31) rfl (Nat.le_of_ble_eq_true rfl) dX10_word_82 w_1257 ?_
      refine ev_aload_n 0 dX10_word_85 rfl ?_
      refine ev_get G10 lay_245 (k := 30) rfl (Nat.le_of_ble_eq_true rfl) dX10_word_86 w_1256 ?_
      refine ev_iload_n 1 dX10_word_89 rfl ?_
      have hb90 := h.1
      replace h := h.2
      refine ev_iast lay_268 (Nat.le_of_ble_eq_true rfl) hb90 dX10_word_90 ?_
      refine ev_aload_n 0 dX10_word_91 rfl ?_
      refine ev_getR (r := 269) G10 lay_245 (k := 32) rfl (Nat.le_of_ble_eq_true rfl) dX10_word_92 w_1258 ?_
      refine ev_aload_n 0 dX10_word_95 rfl ?_
      refine ev_get G10 lay_245 (k := 30) rfl (Nat.le_of_ble_eq_true rfl) dX10_word_96 w_1256 ?_
      refine ev_iload_n 2 dX10_word_99 rfl ?_
      have hb100 := h.1
      replace h := h.2
      refine ev_iast lay_269 (Nat.le_of_ble_eq_true rfl) hb100 dX10_word_100 ?_
      refine ev_aload_n 0 dX10_word_101 rfl ?_
      refine ev_dup dX10_word_102 rfl ?_
      refine ev_get G10 lay_245 (k := 30) rfl (Nat.le_of_ble_eq_true rfl) dX10_word_103 w_1256 ?_
      refine ev_iconst 1 dX10_word_106 (by decide) ?_
      refine ev_iadd dX10_word_107 ?_
      refine ev_put G10 lay_245 (k := 30) rfl (Nat.le_of_ble_eq_true rfl) rfl (by decide +kernel) dX10_word_108 w_1256 ?_
      refine ev_aload_n 0 dX10_word_111 rfl ?_
      refine ev_get G10 lay_245 (k := 30) rfl (Nat.le_of_ble_eq_true rfl) dX10_word_112 w_1256 ?_
      refine ev_iconst 1 dX10_word_115 (by decide) ?_
      refine ev_isub dX10_word_116 ?_
      exact ev_iret rfl dX10_word_117 h
    · replace h := h.1 c9
      refine ev_bipush (-3) dX10_word_78 (by decide) ?_
      exact ev_iret rfl dX10_word_80 h
  · replace h := h.2 c9
    refine ev_aload_n 0 dX10_word_41 rfl ?_
    refine ev_getR (r := 268) G10 lay_245 (k := 31) rfl (Nat.le_of_ble_eq_true rfl) dX10_word_42 w_1257 ?_
    refine ev_iload_n 3 dX10_word_45 rfl ?_
    have hb46 := h.1
    replace h := h.2
    refine ev_iald lay_268 (Nat.le_of_ble_eq_true rfl) hb46 dX10_word_46 ?_
    refine ev_iload_n 1 dX10_word_47 rfl ?_
    refine ev_icmp_ne 63 dX10_word_48 (by decide) (fun c9 => ?_) (fun c9 => ?_)
    · replace h := h.2 c9
      refine ev_iinc (lv' := [(3, .int (x3 + 1)), (0, .ref 245), (1, .int x1), (2, .int x2)]) (x3 + 1) 3 dX10_word_63 rfl rfl (Nat.le_of_ble_eq_true rfl) rfl ?_
      refine ev_goto 33 dX10_word_66 (by decide) ?_
      refine ev_sub [1, 2, 3, 0] rfl ?_
      exact h
    · replace h := h.1 c9
      refine ev_aload_n 0 dX10_word_51 rfl ?_
      refine ev_getR (r := 269) G10 lay_245 (k := 32) rfl (Nat.le_of_ble_eq_true rfl) dX10_word_52 w_1258 ?_
      refine ev_iload_n 3 dX10_word_55 rfl ?_
      have hb56 := h.1
      replace h := h.2
      refine ev_iald lay_269 (Nat.le_of_ble_eq_true rfl) hb56 dX10_word_56 ?_
      refine ev_iload_n 2 dX10_word_57 rfl ?_
      refine ev_icmp_ne 63 dX10_word_58 (by decide) (fun c9 => ?_) (fun c9 => ?_)
      · replace h := h.2 c9
        refine ev_iinc (lv' := [(3, .int (x3 + 1)), (0, .ref 245), (1, .int x1), (2, .int x2)]) (x3 + 1) 3 dX10_word_63 rfl rfl (Nat.le_of_ble_eq_true rfl) rfl ?_
        refine ev_goto 33 dX10_word_66 (by decide) ?_
        refine ev_sub [1, 2, 3, 0] rfl ?_
        exact h
      · replace h := h.1 c9
        refine ev_iconst (-1) dX10_word_61 (by decide) ?_
        exact ev_iret rfl dX10_word_62 h
abbrev KX10_findTable_11 (N : Nat) (σ : Sg) (Q : Option Value → Sg → Prop) (x1 : Int32) : Prop := Ev (N + 3) mX10_findTable 11 [(0, .ref 245), (1, .int x1)] [] σ Q
abbrev KX10_findTable_33 (N : Nat) (σ : Sg) (Q : Option Value → Sg → Prop) (x1 : Int32) : Prop := Ev (N + 3) mX10_findTable 33 [(0, .ref 245), (1, .int x1)] [] σ Q
abbrev KX10_findTable_51 (N : Nat) (σ : Sg) (Q : Option Value → Sg → Prop) (x2 : Int32) (x3 : Int32) : Prop := Ev (N + 3) mX10_findTable 51 [(0, .ref 245), (2, .int x2), (3, .int x3)] [] σ Q
theorem EX10_findTable {N : Nat} {σ : Sg} {Q : Option Value → Sg → Prop} (h : EvM (N + 2) mX10_findWords [.ref 245] σ (fun r9 σ1 => r9 = none ∧ (KX10_findTable_11 N (u1 σ1 245 33 0) Q 0))) : EvM (N + 3) mX10_findTable [.ref 245] σ Q := by
  refine ev_entry rfl (Nat.le_of_ble_eq_true rfl) (lv := [(0, .ref 245)]) rfl ?_
  refine ev_aload_n 0 dX10_findTable_0 rfl ?_
  refine ev_callV (M' := mX10_findWords) [] vX10_findWords G10 lay_245 dX10_findTable_1 w_1467 rfl rfl (Nat.le_of_ble_eq_true rfl) h ?_
  rintro r9 σ1 ⟨rfl, h⟩
  refine ev_aload_n 0 dX10_findTable_4 rfl ?_
  refine ev_iconst 0 dX10_findTable_5 (by decide) ?_
  refine ev_put G10 lay_245 (k := 33) rfl (Nat.le_of_ble_eq_true rfl) rfl (by decide +kernel) dX10_findTable_6 w_1259 ?_
  refine ev_iconst 0 dX10_findTable_9 (by decide) ?_
  refine ev_istore_n (lv' := [(1, .int 0), (0, .ref 245)]) dX10_findTable_10 (Nat.le_of_ble_eq_true rfl) rfl ?_
  refine ev_sub [1, 0] rfl ?_
  exact h
theorem BX10_findTable_11 {N : Nat} {σ : Sg} {Q : Option Value → Sg → Prop} {x1 : Int32} (h : (24 ≤ x1 → KX10_findTable_33 N σ Q 1) ∧ (¬ 24 ≤ x1 → vp_in x1 24 ∧ (KX10_findTable_11 N (u1 σ 271 (x1).toNatClampNeg (-4)) Q (x1 + 1)))) : KX10_findTable_11 N σ Q x1 := by
  refine ev_iload_n 1 dX10_findTable_11 rfl ?_
  refine ev_bipush 24 dX10_findTable_12 (by decide) ?_
  refine ev_icmp_ge 31 dX10_findTable_14 (by decide) (fun c9 => ?_) (fun c9 => ?_)
  · replace h := h.1 c9
    refine ev_iconst 1 dX10_findTable_31 (by decide) ?_
    refine ev_istore_n (lv' := [(1, .int 1), (0, .ref 245)]) dX10_findTable_32 (Nat.le_of_ble_eq_true rfl) rfl ?_
    refine ev_sub [1, 0] rfl ?_
    exact h
  · replace h := h.2 c9
    refine ev_aload_n 0 dX10_findTable_17 rfl ?_
    refine ev_getR (r := 271) G10 lay_245 (k := 35) rfl (Nat.le_of_ble_eq_true rfl) dX10_findTable_18 w_1261 ?_
    refine ev_iload_n 1 dX10_findTable_21 rfl ?_
    refine ev_bipush (-4) dX10_findTable_22 (by decide) ?_
    have hb24 := h.1
    replace h := h.2
    refine ev_iast lay_271 (Nat.le_of_ble_eq_true rfl) hb24 dX10_findTable_24 ?_
    refine ev_iinc (lv' := [(1, .int (x1 + 1)), (0, .ref 245)]) (x1 + 1) 1 dX10_findTable_25 rfl rfl (Nat.le_of_ble_eq_true rfl) rfl ?_
    refine ev_goto 11 dX10_findTable_28 (by decide) ?_
    refine ev_sub [1, 0] rfl ?_
    exact h
theorem BX10_findTable_33 {N : Nat} {σ : Sg} {Q : Option Value → Sg → Prop} {x1 : Int32} (h : (x1 = 0 → Q none σ) ∧ (¬ x1 = 0 → (6 ≤ (σ.1 245 33) → Q none σ) ∧ (¬ 6 ≤ (σ.1 245 33) → KX10_findTable_51 N σ Q (-4) 0))) : KX10_findTable_33 N σ Q x1 := by
  refine ev_iload_n 1 dX10_findTable_33 rfl ?_
  refine ev_if_eq 180 dX10_findTable_34 (by decide) (fun c9 => ?_) (fun c9 => ?_)
  · replace h := h.1 c9
    exact ev_vret rfl dX10_findTable_180 h
  · replace h := h.2 c9
    refine ev_aload_n 0 dX10_findTable_37 rfl ?_
    refine ev_get G10 lay_245 (k := 33) rfl (Nat.le_of_ble_eq_true rfl) dX10_findTable_38 w_1259 ?_
    refine ev_bipush 6 dX10_findTable_41 (by decide) ?_
    refine ev_icmp_ge 180 dX10_findTable_43 (by decide) (fun c9 => ?_) (fun c9 => ?_)
    · replace h := h.1 c9
      exact ev_vret rfl dX10_findTable_180 h
    · replace h := h.2 c9
      refine ev_bipush (-4) dX10_findTable_46 (by decide) ?_
      refine ev_istore_n (lv' := [(2, .int (-4)), (0, .ref 245), (1, .int x1)]) dX10_findTable_48 (Nat.le_of_ble_eq_true rfl) rfl ?_
      refine ev_iconst 0 dX10_findTable_49 (by decide) ?_
      refine ev_istore_n (lv' := [(3, .int 0), (2, .int (-4)), (0, .ref 245), (1, .int x1)]) dX10_findTable_50 (Nat.le_of_ble_eq_true rfl) rfl ?_
      refine ev_sub [2, 1, 0] rfl ?_
      exact h
theorem BX10_findTable_51 {N : Nat} {σ : Sg} {Q : Option Value → Sg → Prop} {x2 : Int32} {x3 : Int32} (h : ((σ.1 245 0) ≤ x3 → (x2 = (-4) → KX10_findTable_33 N σ Q 0) ∧ (¬ x2 = (-4) → vp_in (σ.1 245 33) 6 ∧ (vp_in x2 24 ∧ (KX10_findTable_33 N (u1 (u1 (u1 σ 270 (σ.1 245 33).toNatClampNeg x2) 271 (x2).toNatClampNeg ((u1 σ 270 (σ.1 245 33).toNatClampNeg x2).1 245 33)) 245 33 (((u1 (u1 σ 270 (σ.1 245 33).toNatClampNeg x2) 271 (x2).toNatClampNeg ((u1 σ 270 (σ.1 245 33).toNatClampNeg x2).1 245 33)).1 245 33) + 1)) Q 1)))) ∧ (¬ (σ.1 245 0) ≤ x3 → vp_in x3 24 ∧ (((σ.1 247 (x3).toNatClampNeg) = x3 → vp_in x3 24 ∧ (((σ.1 271 (x3).toNatClampNeg) = (-4) → EvM (N + 2) mX10_countOf [.ref 245, .int x3] σ (fun r9 σ2 => ∃ v2, r9 = some (.int v2) ∧ ((v2 ≤ 0 → KX10_findTable_51 N σ2 Q x2 (x3 + 1)) ∧ (¬ v2 ≤ 0 → (x2 = (-4) → KX10_findTable_51 N σ2 Q x3 (x3 + 1)) ∧ (¬ x2 = (-4) → EvM (N + 2) mX10_countOf [.ref 245, .int x3] σ2 (fun r9 σ3 => ∃ v3, r9 = some (.int v3) ∧ (EvM (N + 2) mX10_countOf [.ref 245, .int x2] σ3 (fun r9 σ4 => ∃ v4, r9 = some (.int v4) ∧ ((v3 ≤ v4 → KX10_findTable_51 N σ4 Q x2 (x3 + 1)) ∧ (¬ v3 ≤ v4 → KX10_findTable_51 N σ4 Q x3 (x3 + 1))))))))))) ∧ (¬ (σ.1 271 (x3).toNatClampNeg) = (-4) → KX10_findTable_51 N σ Q x2 (x3 + 1)))) ∧ (¬ (σ.1 247 (x3).toNatClampNeg) = x3 → KX10_findTable_51 N σ Q x2 (x3 + 1))))) : KX10_findTable_51 N σ Q x2 x3 := by
  refine ev_iload_n 2 dX10_findTable_51 rfl ?_
  refine ev_aload_n 0 dX10_findTable_52 rfl ?_
  refine ev_get G10 lay_245 (k := 0) rfl (Nat.le_of_ble_eq_true rfl) dX10_findTable_53 w_1226 ?_
  refine ev_icmp_ge 131 dX10_findTable_56 (by decide) (fun c9 => ?_) (fun c9 => ?_)
  · replace h := h.1 c9
    refine ev_iload_n 1 dX10_findTable_131 rfl ?_
    refine ev_bipush (-4) dX10_findTable_132 (by decide) ?_
    refine ev_icmp_eq 141 dX10_findTable_134 (by decide) (fun c9 => ?_) (fun c9 => ?_)
    · replace h := h.1 c9
      refine ev_iconst 0 dX10_findTable_141 (by decide) ?_
      refine ev_istore_n (lv' := [(1, .int 0), (0, .ref 245), (2, .int x2), (3, .int x3)]) dX10_findTable_142 (Nat.le_of_ble_eq_true rfl) rfl ?_
      refine ev_iload_n 0 dX10_findTable_143 rfl ?_
      refine ev_if_eq 177 dX10_findTable_144 (by decide) (fun c9 => ?_) (fun c9 => ?_)
      · refine ev_goto 33 dX10_findTable_177 (by decide) ?_
        refine ev_sub [1, 0] rfl ?_
        exact h
      · exact absurd c9 (by decide)
    · replace h := h.2 c9
      refine ev_iconst 1 dX10_findTable_137 (by decide) ?_
      refine ev_goto 142 dX10_findTable_138 (by decide) ?_
      refine ev_istore_n (lv' := [(1, .int 1), (0, .ref 245), (2, .int x2), (3, .int x3)]) dX10_findTable_142 (Nat.le_of_ble_eq_true rfl) rfl ?_
      refine ev_iload_n 0 dX10_findTable_143 rfl ?_
      refine ev_if_eq 177 dX10_findTable_144 (by decide) (fun c9 => ?_) (fun c9 => ?_)
      · exact absurd c9 (by decide)
      · refine ev_aload_n 1 dX10_findTable_147 rfl ?_
        refine ev_getR (r := 270) G10 lay_245 (k := 34) rfl (Nat.le_of_ble_eq_true rfl) dX10_findTable_148 w_1260 ?_
        refine ev_aload_n 1 dX10_findTable_151 rfl ?_
        refine ev_get G10 lay_245 (k := 33) rfl (Nat.le_of_ble_eq_true rfl) dX10_findTable_152 w_1259 ?_
        refine ev_iload_n 2 dX10_findTable_155 rfl ?_
        have hb156 := h.1
        replace h := h.2
        refine ev_iast lay_270 (Nat.le_of_ble_eq_true rfl) hb156 dX10_findTable_156 ?_
        refine ev_aload_n 1 dX10_findTable_157 rfl ?_
        refine ev_getR (r := 271) G10 lay_245 (k := 35) rfl (Nat.le_of_ble_eq_true rfl) dX10_findTable_158 w_1261 ?_
        refine ev_iload_n 2 dX10_findTable_161 rfl ?_
        refine ev_aload_n 1 dX10_findTable_162 rfl ?_
        refine ev_get G10 lay_245 (k := 33) rfl (Nat.le_of_ble_eq_true rfl) dX10_findTable_163 w_1259 ?_
        have hb166 := h.1
        replace h := h.2
        refine ev_iast lay_271 (Nat.le_of_ble_eq_true rfl) hb166 dX10_findTable_166 ?_
        refine ev_aload_n 1 dX10_findTable_167 rfl ?_
        refine ev_dup dX10_findTable_168 rfl ?_
        refine ev_get G10 lay_245 (k := 33) rfl (Nat.le_of_ble_eq_true rfl) dX10_findTable_169 w_1259 ?_
        refine ev_iconst 1 dX10_findTable_172 (by decide) ?_
        refine ev_iadd dX10_findTable_173 ?_
        refine ev_put G10 lay_245 (k := 33) rfl (Nat.le_of_ble_eq_true rfl) rfl (by decide +kernel) dX10_findTable_174 w_1259 ?_
        refine ev_goto 33 dX10_findTable_177 (by decide) ?_
        refine ev_sub [1, 0] rfl ?_
        exact h
  · replace h := h.2 c9
    refine ev_aload_n 0 dX10_findTable_59 rfl ?_
    refine ev_getR (r := 247) G10 lay_245 (k := 3) rfl (Nat.le_of_ble_eq_true rfl) dX10_findTable_60 w_1229 ?_
    refine ev_iload_n 2 dX10_findTable_63 rfl ?_
    have hb64 := h.1
    replace h := h.2
    refine ev_iald lay_247 (Nat.le_of_ble_eq_true rfl) hb64 dX10_findTable_64 ?_
    refine ev_iload_n 2 dX10_findTable_65 rfl ?_
    refine ev_icmp_ne 92 dX10_findTable_66 (by decide) (fun c9 => ?_) (fun c9 => ?_)
    · replace h := h.2 c9
      refine ev_iconst 0 dX10_findTable_92 (by decide) ?_
      refine ev_istore (lv' := [(4, .int 0), (0, .ref 245), (2, .int x2), (3, .int x3)]) dX10_findTable_93 (Nat.le_of_ble_eq_true rfl) rfl ?_
      refine ev_iload 0 dX10_findTable_95 rfl ?_
      refine ev_if_eq 123 dX10_findTable_97 (by decide) (fun c9 => ?_) (fun c9 => ?_)
      · refine ev_iload_n 2 dX10_findTable_123 rfl ?_
        refine ev_istore_n (lv' := [(2, .int x2), (4, .int 0), (0, .ref 245), (3, .int x3)]) dX10_findTable_124 (Nat.le_of_ble_eq_true rfl) rfl ?_
        refine ev_iinc (lv' := [(3, .int (x3 + 1)), (2, .int x2), (4, .int 0), (0, .ref 245)]) (x3 + 1) 3 dX10_findTable_125 rfl rfl (Nat.le_of_ble_eq_true rfl) rfl ?_
        refine ev_goto 51 dX10_findTable_128 (by decide) ?_
        refine ev_sub [3, 1, 0] rfl ?_
        exact h
      · exact absurd c9 (by decide)
    · replace h := h.1 c9
      refine ev_aload_n 0 dX10_findTable_69 rfl ?_
      refine ev_getR (r := 271) G10 lay_245 (k := 35) rfl (Nat.le_of_ble_eq_true rfl) dX10_findTable_70 w_1261 ?_
      refine ev_iload_n 2 dX10_findTable_73 rfl ?_
      have hb74 := h.1
      replace h := h.2
      refine ev_iald lay_271 (Nat.le_of_ble_eq_true rfl) hb74 dX10_findTable_74 ?_
      refine ev_bipush (-4) dX10_findTable_75 (by decide) ?_
      refine ev_icmp_ne 92 dX10_findTable_77 (by decide) (fun c9 => ?_) (fun c9 => ?_)
      · replace h := h.2 c9
        refine ev_iconst 0 dX10_findTable_92 (by decide) ?_
        refine ev_istore (lv' := [(4, .int 0), (0, .ref 245), (2, .int x2), (3, .int x3)]) dX10_findTable_93 (Nat.le_of_ble_eq_true rfl) rfl ?_
        refine ev_iload 0 dX10_findTable_95 rfl ?_
        refine ev_if_eq 123 dX10_findTable_97 (by decide) (fun c9 => ?_) (fun c9 => ?_)
        · refine ev_iload_n 2 dX10_findTable_123 rfl ?_
          refine ev_istore_n (lv' := [(2, .int x2), (4, .int 0), (0, .ref 245), (3, .int x3)]) dX10_findTable_124 (Nat.le_of_ble_eq_true rfl) rfl ?_
          refine ev_iinc (lv' := [(3, .int (x3 + 1)), (2, .int x2), (4, .int 0), (0, .ref 245)]) (x3 + 1) 3 dX10_findTable_125 rfl rfl (Nat.le_of_ble_eq_true rfl) rfl ?_
          refine ev_goto 51 dX10_findTable_128 (by decide) ?_
          refine ev_sub [3, 1, 0] rfl ?_
          exact h
        · exact absurd c9 (by decide)
      · replace h := h.1 c9
        refine ev_aload_n 0 dX10_findTable_80 rfl ?_
        refine ev_iload_n 2 dX10_findTable_81 rfl ?_
        refine ev_callV (M' := mX10_countOf) [.int x3] vX10_countOf G10 lay_245 dX10_findTable_82 w_1483 rfl rfl (Nat.le_of_ble_eq_true rfl) h ?_
        rintro r9 σ2 ⟨v2, rfl, h⟩
        refine ev_if_le 92 dX10_findTable_85 (by decide) (fun c9 => ?_) (fun c9 => ?_)
        · replace h := h.1 c9
          refine ev_iconst 0 dX10_findTable_92 (by decide) ?_
          refine ev_istore (lv' := [(4, .int 0), (0, .ref 245), (2, .int x2), (3, .int x3)]) dX10_findTable_93 (Nat.le_of_ble_eq_true rfl) rfl ?_
          refine ev_iload 0 dX10_findTable_95 rfl ?_
          refine ev_if_eq 123 dX10_findTable_97 (by decide) (fun c9 => ?_) (fun c9 => ?_)
          · refine ev_iload_n 2 dX10_findTable_123 rfl ?_
            refine ev_istore_n (lv' := [(2, .int x2), (4, .int 0), (0, .ref 245), (3, .int x3)]) dX10_findTable_124 (Nat.le_of_ble_eq_true rfl) rfl ?_
            refine ev_iinc (lv' := [(3, .int (x3 + 1)), (2, .int x2), (4, .int 0), (0, .ref 245)]) (x3 + 1) 3 dX10_findTable_125 rfl rfl (Nat.le_of_ble_eq_true rfl) rfl ?_
            refine ev_goto 51 dX10_findTable_128 (by decide) ?_
            refine ev_sub [3, 1, 0] rfl ?_
            exact h
          · exact absurd c9 (by decide)
        · replace h := h.2 c9
          refine ev_iconst 1 dX10_findTable_88 (by decide) ?_
          refine ev_goto 93 dX10_findTable_89 (by decide) ?_
          refine ev_istore (lv' := [(4, .int 1), (0, .ref 245), (2, .int x2), (3, .int x3)]) dX10_findTable_93 (Nat.le_of_ble_eq_true rfl) rfl ?_
          refine ev_iload 0 dX10_findTable_95 rfl ?_
          refine ev_if_eq 123 dX10_findTable_97 (by decide) (fun c9 => ?_) (fun c9 => ?_)
          · exact absurd c9 (by decide)
          · refine ev_iload_n 2 dX10_findTable_100 rfl ?_
            refine ev_bipush (-4) dX10_findTable_101 (by decide) ?_
            refine ev_icmp_eq 119 dX10_findTable_103 (by decide) (fun c9 => ?_) (fun c9 => ?_)
            · replace h := h.1 c9
              refine ev_iload_n 3 dX10_findTable_119 rfl ?_
              refine ev_goto 124 dX10_findTable_120 (by decide) ?_
              refine ev_istore_n (lv' := [(2, .int x3), (4, .int 1), (0, .ref 245), (3, .int x3)]) dX10_findTable_124 (Nat.le_of_ble_eq_true rfl) rfl ?_
              refine ev_iinc (lv' := [(3, .int (x3 + 1)), (2, .int x3), (4, .int 1), (0, .ref 245)]) (x3 + 1) 3 dX10_findTable_125 rfl rfl (Nat.le_of_ble_eq_true rfl) rfl ?_
              refine ev_goto 51 dX10_findTable_128 (by decide) ?_
              refine ev_sub [3, 1, 0] rfl ?_
              exact h
            · replace h := h.2 c9
              refine ev_aload_n 1 dX10_findTable_106 rfl ?_
              refine ev_iload_n 3 dX10_findTable_107 rfl ?_
              refine ev_callV (M' := mX10_countOf) [.int x3] vX10_countOf G10 lay_245 dX10_findTable_108 w_1483 rfl rfl (Nat.le_of_ble_eq_true rfl) h ?_
              rintro r9 σ3 ⟨v3, rfl, h⟩
              refine ev_aload_n 1 dX10_findTable_111 rfl ?_
              refine ev_iload_n 2 dX10_findTable_112 rfl ?_
              refine ev_callV (M' := mX10_countOf) [.int x2] vX10_countOf G10 lay_245 dX10_findTable_113 w_1483 rfl rfl (Nat.le_of_ble_eq_true rfl) h ?_
              rintro r9 σ4 ⟨v4, rfl, h⟩
              refine ev_icmp_le 123 dX10_findTable_116 (by decide) (fun c9 => ?_) (fun c9 => ?_)
              · replace h := h.1 c9
                refine ev_iload_n 2 dX10_findTable_123 rfl ?_
                refine ev_istore_n (lv' := [(2, .int x2), (4, .int 1), (0, .ref 245), (3, .int x3)]) dX10_findTable_124 (Nat.le_of_ble_eq_true rfl) rfl ?_
                refine ev_iinc (lv' := [(3, .int (x3 + 1)), (2, .int x2), (4, .int 1), (0, .ref 245)]) (x3 + 1) 3 dX10_findTable_125 rfl rfl (Nat.le_of_ble_eq_true rfl) rfl ?_
                refine ev_goto 51 dX10_findTable_128 (by decide) ?_
                refine ev_sub [3, 1, 0] rfl ?_
                exact h
              · replace h := h.2 c9
                refine ev_iload_n 3 dX10_findTable_119 rfl ?_
                refine ev_goto 124 dX10_findTable_120 (by decide) ?_
                refine ev_istore_n (lv' := [(2, .int x3), (4, .int 1), (0, .ref 245), (3, .int x3)]) dX10_findTable_124 (Nat.le_of_ble_eq_true rfl) rfl ?_
                refine ev_iinc (lv' := [(3, .int (x3 + 1)), (2, .int x3), (4, .int 1), (0, .ref 245)]) (x3 + 1) 3 dX10_findTable_125 rfl rfl (Nat.le_of_ble_eq_true rfl) rfl ?_
                refine ev_goto 51 dX10_findTable_128 (by decide) ?_
                refine ev_sub [3, 1, 0] rfl ?_
                exact h
theorem EX10_tabled {N : Nat} {σ : Sg} {Q : Option Value → Sg → Prop} {x1 : Int32} (h : ((0 ≤ ((x1).toInt64).toInt ∧ ((x1).toInt64).toInt ≤ 5) → EvM (N + 3) mX10_findTable [.ref 245] σ (fun r9 σ1 => r9 = none ∧ (((σ1.1 245 33) ≤ x1 → Q (some (.int (-4))) σ1) ∧ (¬ (σ1.1 245 33) ≤ x1 → vp_in x1 6 ∧ (Q (some (.int (σ1.1 270 (x1).toNatClampNeg))) σ1))))) ∧ (¬ (0 ≤ ((x1).toInt64).toInt ∧ ((x1).toInt64).toInt ≤ 5) → Q (some (.int (-1))) σ)) : EvM (N + 4) mX10_tabled [.ref 245, .int x1] σ Q := by
  refine ev_entry rfl (Nat.le_of_ble_eq_true rfl) (lv := [(0, .ref 245), (1, .int x1)]) rfl ?_
  refine ev_iload_n 1 dX10_tabled_0 rfl ?_
  refine ev_i2l dX10_tabled_1 ?_
  refine ev_lconst 0 dX10_tabled_2 (by decide) ?_
  refine ev_ldc2 5 dX10_tabled_3 w_1465 ?_
  refine ev_callS (M' := mX10_in) [.long ((x1).toInt64), .long 0, .long 5] vX10_in dX10_tabled_6 w_1421 rfl rfl (Nat.le_of_ble_eq_true rfl) (C10_in (P := 0 ≤ ((x1).toInt64).toInt ∧ ((x1).toInt64).toInt ≤ 5) (by (try simp only [i_l]); exact Iff.rfl) (Q := fun r9 s9 => σ = s9 ∧ ((r9 = some (.int 1) ∧ (0 ≤ ((x1).toInt64).toInt ∧ ((x1).toInt64).toInt ≤ 5)) ∨ (r9 = some (.int 0) ∧ ¬ (0 ≤ ((x1).toInt64).toInt ∧ ((x1).toInt64).toInt ≤ 5)))) ⟨fun c9 => ⟨rfl, Or.inl ⟨rfl, c9⟩⟩, fun c9 => ⟨rfl, Or.inr ⟨rfl, c9⟩⟩⟩) ?_
  rintro r9 s9 ⟨rfl, ⟨rfl, c9⟩ | ⟨rfl, c9⟩⟩
  · replace h := h.1 c9
    refine ev_if_ne 14 dX10_tabled_9 (by decide) (fun c9 => ?_) (fun c9 => ?_)
    · refine ev_aload_n 0 dX10_tabled_14 rfl ?_
      refine ev_callV (M' := mX10_findTable) [] vX10_findTable G10 lay_245 dX10_tabled_15 w_1625 rfl rfl (Nat.le_of_ble_eq_true rfl) h ?_
      rintro r9 σ1 ⟨rfl, h⟩
      refine ev_iload_n 1 dX10_tabled_18 rfl ?_
      refine ev_aload_n 0 dX10_tabled_19 rfl ?_
      refine ev_get G10 lay_245 (k := 33) rfl (Nat.le_of_ble_eq_true rfl) dX10_tabled_20 w_1259 ?_
      refine ev_icmp_ge 35 dX10_tabled_23 (by decide) (fun c9 => ?_) (fun c9 => ?_)
      · replace h := h.1 c9
        refine ev_bipush (-4) dX10_tabled_35 (by decide) ?_
        exact ev_iret rfl dX10_tabled_37 h
      · replace h := h.2 c9
        refine ev_aload_n 0 dX10_tabled_26 rfl ?_
        refine ev_getR (r := 270) G10 lay_245 (k := 34) rfl (Nat.le_of_ble_eq_true rfl) dX10_tabled_27 w_1260 ?_
        refine ev_iload_n 1 dX10_tabled_30 rfl ?_
        have hb31 := h.1
        replace h := h.2
        refine ev_iald lay_270 (Nat.le_of_ble_eq_true rfl) hb31 dX10_tabled_31 ?_
        refine ev_goto 37 dX10_tabled_32 (by decide) ?_
        exact ev_iret rfl dX10_tabled_37 h
    · exact absurd c9 (by decide)
  · replace h := h.2 c9
    refine ev_if_ne 14 dX10_tabled_9 (by decide) (fun c9 => ?_) (fun c9 => ?_)
    · exact absurd c9 (by decide)
    · refine ev_iconst (-1) dX10_tabled_12 (by decide) ?_
      exact ev_iret rfl dX10_tabled_13 h
abbrev KX10_findTongue_2 (N : Nat) (σ : Sg) (Q : Option Value → Sg → Prop) (x1 : Int32) : Prop := Ev N mX10_findTongue 2 [(0, .ref 245), (1, .int x1)] [] σ Q
abbrev KX10_findTongue_24 (N : Nat) (σ : Sg) (Q : Option Value → Sg → Prop) (x1 : Int32) : Prop := Ev N mX10_findTongue 24 [(0, .ref 245), (1, .int x1)] [] σ Q
theorem EX10_findTongue {N : Nat} {σ : Sg} {Q : Option Value → Sg → Prop} (h : KX10_findTongue_2 N σ Q 0) : EvM N mX10_findTongue [.ref 245] σ Q := by
  refine ev_entry rfl (Nat.le_of_ble_eq_true rfl) (lv := [(0, .ref 245)]) rfl ?_
  refine ev_iconst 0 dX10_findTongue_0 (by decide) ?_
  refine ev_istore_n (lv' := [(1, .int 0), (0, .ref 245)]) dX10_findTongue_1 (Nat.le_of_ble_eq_true rfl) rfl ?_
  refine ev_sub [1, 0] rfl ?_
  exact h
theorem BX10_findTongue_2 {N : Nat} {σ : Sg} {Q : Option Value → Sg → Prop} {x1 : Int32} (h : (28672 ≤ x1 → KX10_findTongue_24 N σ Q 0) ∧ (¬ 28672 ≤ x1 → vp_in x1 28672 ∧ (KX10_findTongue_2 N (u1 σ 274 (x1).toNatClampNeg (vp_nar .boolean 0)) Q (x1 + 1)))) : KX10_findTongue_2 N σ Q x1 := by
  refine ev_iload_n 1 dX10_findTongue_2 rfl ?_
  refine ev_sipush 28672 dX10_findTongue_3 (by decide) ?_
  refine ev_icmp_ge 22 dX10_findTongue_6 (by decide) (fun c9 => ?_) (fun c9 => ?_)
  · replace h := h.1 c9
    refine ev_iconst 0 dX10_findTongue_22 (by decide) ?_
    refine ev_istore_n (lv' := [(1, .int 0), (0, .ref 245)]) dX10_findTongue_23 (Nat.le_of_ble_eq_true rfl) rfl ?_
    refine ev_sub [1, 0] rfl ?_
    exact h
  · replace h := h.2 c9
    refine ev_aload_n 0 dX10_findTongue_9 rfl ?_
    refine ev_getR (r := 274) G10 lay_245 (k := 39) rfl (Nat.le_of_ble_eq_true rfl) dX10_findTongue_10 w_1265 ?_
    refine ev_iload_n 1 dX10_findTongue_13 rfl ?_
    refine ev_iconst 0 dX10_findTongue_14 (by decide) ?_
    have hb15 := h.1
    replace h := h.2
    refine ev_zast lay_274 (Nat.le_of_ble_eq_true rfl) hb15 dX10_findTongue_15 ?_
    refine ev_iinc (lv' := [(1, .int (x1 + 1)), (0, .ref 245)]) (x1 + 1) 1 dX10_findTongue_16 rfl rfl (Nat.le_of_ble_eq_true rfl) rfl ?_
    refine ev_goto 2 dX10_findTongue_19 (by decide) ?_
    refine ev_sub [1, 0] rfl ?_
    exact h
theorem BX10_findTongue_24 {N : Nat} {σ : Sg} {Q : Option Value → Sg → Prop} {x1 : Int32} (h : ((σ.1 245 30) ≤ x1 → Q none σ) ∧ (¬ (σ.1 245 30) ≤ x1 → vp_in x1 12 ∧ (vp_in x1 12 ∧ (vp_in ((4096 * (σ.1 268 (x1).toNatClampNeg)) + (σ.1 269 (x1).toNatClampNeg)) 28672 ∧ (KX10_findTongue_24 N (u1 σ 274 ((4096 * (σ.1 268 (x1).toNatClampNeg)) + (σ.1 269 (x1).toNatClampNeg)).toNatClampNeg (vp_nar .boolean 1)) Q (x1 + 1)))))) : KX10_findTongue_24 N σ Q x1 := by
  refine ev_iload_n 1 dX10_findTongue_24 rfl ?_
  refine ev_aload_n 0 dX10_findTongue_25 rfl ?_
  refine ev_get G10 lay_245 (k := 30) rfl (Nat.le_of_ble_eq_true rfl) dX10_findTongue_26 w_1256 ?_
  refine ev_icmp_ge 61 dX10_findTongue_29 (by decide) (fun c9 => ?_) (fun c9 => ?_)
  · replace h := h.1 c9
    exact ev_vret rfl dX10_findTongue_61 h
  · replace h := h.2 c9
    refine ev_aload_n 0 dX10_findTongue_32 rfl ?_
    refine ev_getR (r := 274) G10 lay_245 (k := 39) rfl (Nat.le_of_ble_eq_true rfl) dX10_findTongue_33 w_1265 ?_
    refine ev_sipush 4096 dX10_findTongue_36 (by decide) ?_
    refine ev_aload_n 0 dX10_findTongue_39 rfl ?_
    refine ev_getR (r := 268) G10 lay_245 (k := 31) rfl (Nat.le_of_ble_eq_true rfl) dX10_findTongue_40 w_1257 ?_
    refine ev_iload_n 1 dX10_findTongue_43 rfl ?_
    have hb44 := h.1
    replace h := h.2
    refine ev_iald lay_268 (Nat.le_of_ble_eq_true rfl) hb44 dX10_findTongue_44 ?_
    refine ev_imul dX10_findTongue_45 ?_
    refine ev_aload_n 0 dX10_findTongue_46 rfl ?_
    refine ev_getR (r := 269) G10 lay_245 (k := 32) rfl (Nat.le_of_ble_eq_true rfl) dX10_findTongue_47 w_1258 ?_
    refine ev_iload_n 1 dX10_findTongue_50 rfl ?_
    have hb51 := h.1
    replace h := h.2
    refine ev_iald lay_269 (Nat.le_of_ble_eq_true rfl) hb51 dX10_findTongue_51 ?_
    refine ev_iadd dX10_findTongue_52 ?_
    refine ev_iconst 1 dX10_findTongue_53 (by decide) ?_
    have hb54 := h.1
    replace h := h.2
    refine ev_zast lay_274 (Nat.le_of_ble_eq_true rfl) hb54 dX10_findTongue_54 ?_
    refine ev_iinc (lv' := [(1, .int (x1 + 1)), (0, .ref 245)]) (x1 + 1) 1 dX10_findTongue_55 rfl rfl (Nat.le_of_ble_eq_true rfl) rfl ?_
    refine ev_goto 24 dX10_findTongue_58 (by decide) ?_
    refine ev_sub [1, 0] rfl ?_
    exact h
abbrev KX10_findReadable_7 (N : Nat) (σ : Sg) (Q : Option Value → Sg → Prop) (x1 : Int32) (x2 : Int32) : Prop := Ev (N + 2) mX10_findReadable 7 [(0, .ref 245), (1, .int x1), (2, .int x2)] [] σ Q
abbrev KX10_findReadable_61 (N : Nat) (σ : Sg) (Q : Option Value → Sg → Prop) (x1 : Int32) (x2 : Int32) (x3 : Int32) (x4 : Int32) (x5 : Int32) : Prop := Ev (N + 2) mX10_findReadable 61 [(0, .ref 245), (1, .int x1), (2, .int x2), (3, .int x3), (4, .int x4), (5, .int x5)] [] σ Q
theorem EX10_findReadable {N : Nat} {σ : Sg} {Q : Option Value → Sg → Prop} {x1 : Int32} (h : KX10_findReadable_7 N (u1 σ 245 36 0) Q x1 0) : EvM (N + 2) mX10_findReadable [.ref 245, .int x1] σ Q := by
  refine ev_entry rfl (Nat.le_of_ble_eq_true rfl) (lv := [(0, .ref 245), (1, .int x1)]) rfl ?_
  refine ev_aload_n 0 dX10_findReadable_0 rfl ?_
  refine ev_iconst 0 dX10_findReadable_1 (by decide) ?_
  refine ev_put G10 lay_245 (k := 36) rfl (Nat.le_of_ble_eq_true rfl) rfl (by decide +kernel) dX10_findReadable_2 w_1262 ?_
  refine ev_iconst 0 dX10_findReadable_5 (by decide) ?_
  refine ev_istore_n (lv' := [(2, .int 0), (0, .ref 245), (1, .int x1)]) dX10_findReadable_6 (Nat.le_of_ble_eq_true rfl) rfl ?_
  refine ev_sub [1, 2, 0] rfl ?_
  exact h
theorem BX10_findReadable_7 {N : Nat} {σ : Sg} {Q : Option Value → Sg → Prop} {x1 : Int32} {x2 : Int32} (h : ((σ.1 245 7) ≤ x2 → Q none σ) ∧ (¬ (σ.1 245 7) ≤ x2 → vp_in x2 104 ∧ (((σ.1 253 (x2).toNatClampNeg) = 0 → KX10_findReadable_61 N σ Q x1 x2 0 0 0) ∧ (¬ (σ.1 253 (x2).toNatClampNeg) = 0 → vp_in x2 104 ∧ ((6 < (σ.1 252 (x2).toNatClampNeg) → KX10_findReadable_61 N σ Q x1 x2 0 0 0) ∧ (¬ 6 < (σ.1 252 (x2).toNatClampNeg) → vp_in x2 104 ∧ ((((x1 >>> ((σ.1 250 (x2).toNatClampNeg) &&& 31)) &&& 1) = 1 → KX10_findReadable_61 N σ Q x1 x2 1 0 0) ∧ (¬ ((x1 >>> ((σ.1 250 (x2).toNatClampNeg) &&& 31)) &&& 1) = 1 → KX10_findReadable_61 N σ Q x1 x2 0 0 0)))))))) : KX10_findReadable_7 N σ Q x1 x2 := by
  refine ev_iload_n 2 dX10_findReadable_7 rfl ?_
  refine ev_aload_n 0 dX10_findReadable_8 rfl ?_
  refine ev_get G10 lay_245 (k := 7) rfl (Nat.le_of_ble_eq_true rfl) dX10_findReadable_9 w_1233 ?_
  refine ev_icmp_ge 173 dX10_findReadable_12 (by decide) (fun c9 => ?_) (fun c9 => ?_)
  · replace h := h.1 c9
    exact ev_vret rfl dX10_findReadable_173 h
  · replace h := h.2 c9
    refine ev_aload_n 0 dX10_findReadable_15 rfl ?_
    refine ev_getR (r := 253) G10 lay_245 (k := 11) rfl (Nat.le_of_ble_eq_true rfl) dX10_findReadable_16 w_1237 ?_
    refine ev_iload_n 2 dX10_findReadable_19 rfl ?_
    have hb20 := h.1
    replace h := h.2
    refine ev_zald lay_253 (Nat.le_of_ble_eq_true rfl) hb20 dX10_findReadable_20 ?_
    refine ev_if_eq 53 dX10_findReadable_21 (by decide) (fun c9 => ?_) (fun c9 => ?_)
    · replace h := h.1 c9
      refine ev_iconst 0 dX10_findReadable_53 (by decide) ?_
      refine ev_istore_n (lv' := [(3, .int 0), (0, .ref 245), (1, .int x1), (2, .int x2)]) dX10_findReadable_54 (Nat.le_of_ble_eq_true rfl) rfl ?_
      refine ev_iconst 0 dX10_findReadable_55 (by decide) ?_
      refine ev_istore (lv' := [(4, .int 0), (3, .int 0), (0, .ref 245), (1, .int x1), (2, .int x2)]) dX10_findReadable_56 (Nat.le_of_ble_eq_true rfl) rfl ?_
      refine ev_iconst 0 dX10_findReadable_58 (by decide) ?_
      refine ev_istore (lv' := [(5, .int 0), (4, .int 0), (3, .int 0), (0, .ref 245), (1, .int x1), (2, .int x2)]) dX10_findReadable_59 (Nat.le_of_ble_eq_true rfl) rfl ?_
      refine ev_sub [3, 4, 5, 2, 1, 0] rfl ?_
      exact h
    · replace h := h.2 c9
      refine ev_aload_n 0 dX10_findReadable_24 rfl ?_
      refine ev_getR (r := 252) G10 lay_245 (k := 10) rfl (Nat.le_of_ble_eq_true rfl) dX10_findReadable_25 w_1236 ?_
      refine ev_iload_n 2 dX10_findReadable_28 rfl ?_
      have hb29 := h.1
      replace h := h.2
      refine ev_iald lay_252 (Nat.le_of_ble_eq_true rfl) hb29 dX10_findReadable_29 ?_
      refine ev_bipush 6 dX10_findReadable_30 (by decide) ?_
      refine ev_icmp_gt 53 dX10_findReadable_32 (by decide) (fun c9 => ?_) (fun c9 => ?_)
      · replace h := h.1 c9
        refine ev_iconst 0 dX10_findReadable_53 (by decide) ?_
        refine ev_istore_n (lv' := [(3, .int 0), (0, .ref 245), (1, .int x1), (2, .int x2)]) dX10_findReadable_54 (Nat.le_of_ble_eq_true rfl) rfl ?_
        refine ev_iconst 0 dX10_findReadable_55 (by decide) ?_
        refine ev_istore (lv' := [(4, .int 0), (3, .int 0), (0, .ref 245), (1, .int x1), (2, .int x2)]) dX10_findReadable_56 (Nat.le_of_ble_eq_true rfl) rfl ?_
        refine ev_iconst 0 dX10_findReadable_58 (by decide) ?_
        refine ev_istore (lv' := [(5, .int 0), (4, .int 0), (3, .int 0), (0, .ref 245), (1, .int x1), (2, .int x2)]) dX10_findReadable_59 (Nat.le_of_ble_eq_true rfl) rfl ?_
        refine ev_sub [3, 4, 5, 2, 1, 0] rfl ?_
        exact h
      · replace h := h.2 c9
        refine ev_iload_n 1 dX10_findReadable_35 rfl ?_
        refine ev_aload_n 0 dX10_findReadable_36 rfl ?_
        refine ev_getR (r := 250) G10 lay_245 (k := 8) rfl (Nat.le_of_ble_eq_true rfl) dX10_findReadable_37 w_1234 ?_
        refine ev_iload_n 2 dX10_findReadable_40 rfl ?_
        have hb41 := h.1
        replace h := h.2
        refine ev_iald lay_250 (Nat.le_of_ble_eq_true rfl) hb41 dX10_findReadable_41 ?_
        refine ev_ishr dX10_findReadable_42 ?_
        refine ev_iconst 1 dX10_findReadable_43 (by decide) ?_
        refine ev_iand dX10_findReadable_44 ?_
        refine ev_iconst 1 dX10_findReadable_45 (by decide) ?_
        refine ev_icmp_ne 53 dX10_findReadable_46 (by decide) (fun c9 => ?_) (fun c9 => ?_)
        · replace h := h.2 c9
          refine ev_iconst 0 dX10_findReadable_53 (by decide) ?_
          refine ev_istore_n (lv' := [(3, .int 0), (0, .ref 245), (1, .int x1), (2, .int x2)]) dX10_findReadable_54 (Nat.le_of_ble_eq_true rfl) rfl ?_
          refine ev_iconst 0 dX10_findReadable_55 (by decide) ?_
          refine ev_istore (lv' := [(4, .int 0), (3, .int 0), (0, .ref 245), (1, .int x1), (2, .int x2)]) dX10_findReadable_56 (Nat.le_of_ble_eq_true rfl) rfl ?_
          refine ev_iconst 0 dX10_findReadable_58 (by decide) ?_
          refine ev_istore (lv' := [(5, .int 0), (4, .int 0), (3, .int 0), (0, .ref 245), (1, .int x1), (2, .int x2)]) dX10_findReadable_59 (Nat.le_of_ble_eq_true rfl) rfl ?_
          refine ev_sub [3, 4, 5, 2, 1, 0] rfl ?_
          exact h
        · replace h := h.1 c9
          refine ev_iconst 1 dX10_findReadable_49 (by decide) ?_
          refine ev_goto 54 dX10_findReadable_50 (by decide) ?_
          refine ev_istore_n (lv' := [(3, .int 1), (0, .ref 245), (1, .int x1), (2, .int x2)]) dX10_findReadable_54 (Nat.le_of_ble_eq_true rfl) rfl ?_
          refine ev_iconst 0 dX10_findReadable_55 (by decide) ?_
          refine ev_istore (lv' := [(4, .int 0), (3, .int 1), (0, .ref 245), (1, .int x1), (2, .int x2)]) dX10_findReadable_56 (Nat.le_of_ble_eq_true rfl) rfl ?_
          refine ev_iconst 0 dX10_findReadable_58 (by decide) ?_
          refine ev_istore (lv' := [(5, .int 0), (4, .int 0), (3, .int 1), (0, .ref 245), (1, .int x1), (2, .int x2)]) dX10_findReadable_59 (Nat.le_of_ble_eq_true rfl) rfl ?_
          refine ev_sub [3, 4, 5, 2, 1, 0] rfl ?_
          exact h
theorem BX10_findReadable_61 {N : Nat} {σ : Sg} {Q : Option Value → Sg → Prop} {x1 : Int32} {x2 : Int32} {x3 : Int32} {x4 : Int32} {x5 : Int32} (h : vp_in x2 104 ∧ (((σ.1 252 (x2).toNatClampNeg) ≤ x5 → (x3 = 0 → KX10_findReadable_7 N σ Q x1 (x2 + 1)) ∧ (¬ x3 = 0 → vp_in x2 104 ∧ (vp_in (σ.1 245 36) 104 ∧ (vp_in ((u1 σ 272 (σ.1 245 36).toNatClampNeg (σ.1 252 (x2).toNatClampNeg)).1 245 36) 104 ∧ (KX10_findReadable_7 N (u1 (u1 (u1 σ 272 (σ.1 245 36).toNatClampNeg (σ.1 252 (x2).toNatClampNeg)) 273 ((u1 σ 272 (σ.1 245 36).toNatClampNeg (σ.1 252 (x2).toNatClampNeg)).1 245 36).toNatClampNeg x4) 245 36 (((u1 (u1 σ 272 (σ.1 245 36).toNatClampNeg (σ.1 252 (x2).toNatClampNeg)) 273 ((u1 σ 272 (σ.1 245 36).toNatClampNeg (σ.1 252 (x2).toNatClampNeg)).1 245 36).toNatClampNeg x4).1 245 36) + 1)) Q x1 (x2 + 1)))))) ∧ (¬ (σ.1 252 (x2).toNatClampNeg) ≤ x5 → (x3 = 0 → (x3 = 0 → KX10_findReadable_7 N σ Q x1 (x2 + 1)) ∧ (¬ x3 = 0 → vp_in x2 104 ∧ (vp_in (σ.1 245 36) 104 ∧ (vp_in ((u1 σ 272 (σ.1 245 36).toNatClampNeg (σ.1 252 (x2).toNatClampNeg)).1 245 36) 104 ∧ (KX10_findReadable_7 N (u1 (u1 (u1 σ 272 (σ.1 245 36).toNatClampNeg (σ.1 252 (x2).toNatClampNeg)) 273 ((u1 σ 272 (σ.1 245 36).toNatClampNeg (σ.1 252 (x2).toNatClampNeg)).1 245 36).toNatClampNeg x4) 245 36 (((u1 (u1 σ 272 (σ.1 245 36).toNatClampNeg (σ.1 252 (x2).toNatClampNeg)) 273 ((u1 σ 272 (σ.1 245 36).toNatClampNeg (σ.1 252 (x2).toNatClampNeg)).1 245 36).toNatClampNeg x4).1 245 36) + 1)) Q x1 (x2 + 1)))))) ∧ (¬ x3 = 0 → EvM (N + 1) mX10_wordAt [.ref 245, .int x2, .int x5] σ (fun r9 σ1 => ∃ v1, r9 = some (.int v1) ∧ (vp_in v1 24 ∧ (((σ1.1 271 (v1).toNatClampNeg) = (-4) → KX10_findReadable_61 N σ1 Q x1 x2 0 ((8 * x4) + 0) (x5 + 1)) ∧ (¬ (σ1.1 271 (v1).toNatClampNeg) = (-4) → KX10_findReadable_61 N σ1 Q x1 x2 1 ((8 * x4) + (σ1.1 271 (v1).toNatClampNeg)) (x5 + 1))))))))) : KX10_findReadable_61 N σ Q x1 x2 x3 x4 x5 := by
  refine ev_iload 5 dX10_findReadable_61 rfl ?_
  refine ev_aload_n 0 dX10_findReadable_63 rfl ?_
  refine ev_getR (r := 252) G10 lay_245 (k := 10) rfl (Nat.le_of_ble_eq_true rfl) dX10_findReadable_64 w_1236 ?_
  refine ev_iload_n 2 dX10_findReadable_67 rfl ?_
  have hb68 := h.1
  replace h := h.2
  refine ev_iald lay_252 (Nat.le_of_ble_eq_true rfl) hb68 dX10_findReadable_68 ?_
  refine ev_icmp_ge 127 dX10_findReadable_69 (by decide) (fun c9 => ?_) (fun c9 => ?_)
  · replace h := h.1 c9
    refine ev_iload_n 3 dX10_findReadable_127 rfl ?_
    refine ev_if_eq 167 dX10_findReadable_128 (by decide) (fun c9 => ?_) (fun c9 => ?_)
    · replace h := h.1 c9
      refine ev_iinc (lv' := [(2, .int (x2 + 1)), (0, .ref 245), (1, .int x1), (3, .int x3), (4, .int x4), (5, .int x5)]) (x2 + 1) 2 dX10_findReadable_167 rfl rfl (Nat.le_of_ble_eq_true rfl) rfl ?_
      refine ev_goto 7 dX10_findReadable_170 (by decide) ?_
      refine ev_sub [1, 2, 0] rfl ?_
      exact h
    · replace h := h.2 c9
      refine ev_aload_n 0 dX10_findReadable_131 rfl ?_
      refine ev_getR (r := 272) G10 lay_245 (k := 37) rfl (Nat.le_of_ble_eq_true rfl) dX10_findReadable_132 w_1263 ?_
      refine ev_aload_n 0 dX10_findReadable_135 rfl ?_
      refine ev_get G10 lay_245 (k := 36) rfl (Nat.le_of_ble_eq_true rfl) dX10_findReadable_136 w_1262 ?_
      refine ev_aload_n 0 dX10_findReadable_139 rfl ?_
      refine ev_getR (r := 252) G10 lay_245 (k := 10) rfl (Nat.le_of_ble_eq_true rfl) dX10_findReadable_140 w_1236 ?_
      refine ev_iload_n 2 dX10_findReadable_143 rfl ?_
      have hb144 := h.1
      replace h := h.2
      refine ev_iald lay_252 (Nat.le_of_ble_eq_true rfl) hb144 dX10_findReadable_144 ?_
      have hb145 := h.1
      replace h := h.2
      refine ev_iast lay_272 (Nat.le_of_ble_eq_true rfl) hb145 dX10_findReadable_145 ?_
      refine ev_aload_n 0 dX10_findReadable_146 rfl ?_
      refine ev_getR (r := 273) G10 lay_245 (k := 38) rfl (Nat.le_of_ble_eq_true rfl) dX10_findReadable_147 w_1264 ?_
      refine ev_aload_n 0 dX10_findReadable_150 rfl ?_
      refine ev_get G10 lay_245 (k := 36) rfl (Nat.le_of_ble_eq_true rfl) dX10_findReadable_151 w_1262 ?_
      refine ev_iload 4 dX10_findReadable_154 rfl ?_
      have hb156 := h.1
      replace h := h.2
      refine ev_iast lay_273 (Nat.le_of_ble_eq_true rfl) hb156 dX10_findReadable_156 ?_
      refine ev_aload_n 0 dX10_findReadable_157 rfl ?_
      refine ev_dup dX10_findReadable_158 rfl ?_
      refine ev_get G10 lay_245 (k := 36) rfl (Nat.le_of_ble_eq_true rfl) dX10_findReadable_159 w_1262 ?_
      refine ev_iconst 1 dX10_findReadable_162 (by decide) ?_
      refine ev_iadd dX10_findReadable_163 ?_
      refine ev_put G10 lay_245 (k := 36) rfl (Nat.le_of_ble_eq_true rfl) rfl (by decide +kernel) dX10_findReadable_164 w_1262 ?_
      refine ev_iinc (lv' := [(2, .int (x2 + 1)), (0, .ref 245), (1, .int x1), (3, .int x3), (4, .int x4), (5, .int x5)]) (x2 + 1) 2 dX10_findReadable_167 rfl rfl (Nat.le_of_ble_eq_true rfl) rfl ?_
      refine ev_goto 7 dX10_findReadable_170 (by decide) ?_
      refine ev_sub [1, 2, 0] rfl ?_
      exact h
  · replace h := h.2 c9
    refine ev_iload_n 3 dX10_findReadable_72 rfl ?_
    refine ev_if_eq 127 dX10_findReadable_73 (by decide) (fun c9 => ?_) (fun c9 => ?_)
    · replace h := h.1 c9
      refine ev_iload_n 3 dX10_findReadable_127 rfl ?_
      refine ev_if_eq 167 dX10_findReadable_128 (by decide) (fun c9 => ?_) (fun c9 => ?_)
      · replace h := h.1 c9
        refine ev_iinc (lv' := [(2, .int (x2 + 1)), (0, .ref 245), (1, .int x1), (3, .int x3), (4, .int x4), (5, .int x5)]) (x2 + 1) 2 dX10_findReadable_167 rfl rfl (Nat.le_of_ble_eq_true rfl) rfl ?_
        refine ev_goto 7 dX10_findReadable_170 (by decide) ?_
        refine ev_sub [1, 2, 0] rfl ?_
        exact h
      · replace h := h.2 c9
        refine ev_aload_n 0 dX10_findReadable_131 rfl ?_
        refine ev_getR (r := 272) G10 lay_245 (k := 37) rfl (Nat.le_of_ble_eq_true rfl) dX10_findReadable_132 w_1263 ?_
        refine ev_aload_n 0 dX10_findReadable_135 rfl ?_
        refine ev_get G10 lay_245 (k := 36) rfl (Nat.le_of_ble_eq_true rfl) dX10_findReadable_136 w_1262 ?_
        refine ev_aload_n 0 dX10_findReadable_139 rfl ?_
        refine ev_getR (r := 252) G10 lay_245 (k := 10) rfl (Nat.le_of_ble_eq_true rfl) dX10_findReadable_140 w_1236 ?_
        refine ev_iload_n 2 dX10_findReadable_143 rfl ?_
        have hb144 := h.1
        replace h := h.2
        refine ev_iald lay_252 (Nat.le_of_ble_eq_true rfl) hb144 dX10_findReadable_144 ?_
        have hb145 := h.1
        replace h := h.2
        refine ev_iast lay_272 (Nat.le_of_ble_eq_true rfl) hb145 dX10_findReadable_145 ?_
        refine ev_aload_n 0 dX10_findReadable_146 rfl ?_
        refine ev_getR (r := 273) G10 lay_245 (k := 38) rfl (Nat.le_of_ble_eq_true rfl) dX10_findReadable_147 w_1264 ?_
        refine ev_aload_n 0 dX10_findReadable_150 rfl ?_
        refine ev_get G10 lay_245 (k := 36) rfl (Nat.le_of_ble_eq_true rfl) dX10_findReadable_151 w_1262 ?_
        refine ev_iload 4 dX10_findReadable_154 rfl ?_
        have hb156 := h.1
        replace h := h.2
        refine ev_iast lay_273 (Nat.le_of_ble_eq_true rfl) hb156 dX10_findReadable_156 ?_
        refine ev_aload_n 0 dX10_findReadable_157 rfl ?_
        refine ev_dup dX10_findReadable_158 rfl ?_
        refine ev_get G10 lay_245 (k := 36) rfl (Nat.le_of_ble_eq_true rfl) dX10_findReadable_159 w_1262 ?_
        refine ev_iconst 1 dX10_findReadable_162 (by decide) ?_
        refine ev_iadd dX10_findReadable_163 ?_
        refine ev_put G10 lay_245 (k := 36) rfl (Nat.le_of_ble_eq_true rfl) rfl (by decide +kernel) dX10_findReadable_164 w_1262 ?_
        refine ev_iinc (lv' := [(2, .int (x2 + 1)), (0, .ref 245), (1, .int x1), (3, .int x3), (4, .int x4), (5, .int x5)]) (x2 + 1) 2 dX10_findReadable_167 rfl rfl (Nat.le_of_ble_eq_true rfl) rfl ?_
        refine ev_goto 7 dX10_findReadable_170 (by decide) ?_
        refine ev_sub [1, 2, 0] rfl ?_
        exact h
    · replace h := h.2 c9
      refine ev_aload_n 0 dX10_findReadable_76 rfl ?_
      refine ev_getR (r := 271) G10 lay_245 (k := 35) rfl (Nat.le_of_ble_eq_true rfl) dX10_findReadable_77 w_1261 ?_
      refine ev_aload_n 0 dX10_findReadable_80 rfl ?_
      refine ev_iload_n 2 dX10_findReadable_81 rfl ?_
      refine ev_iload 5 dX10_findReadable_82 rfl ?_
      refine ev_callV (M' := mX10_wordAt) [.int x2, .int x5] vX10_wordAt G10 lay_245 dX10_findReadable_84 w_1513 rfl rfl (Nat.le_of_ble_eq_true rfl) h ?_
      rintro r9 σ1 ⟨v1, rfl, h⟩
      have hb87 := h.1
      replace h := h.2
      refine ev_iald lay_271 (Nat.le_of_ble_eq_true rfl) hb87 dX10_findReadable_87 ?_
      refine ev_istore (lv' := [(6, .int (σ1.1 271 (v1).toNatClampNeg)), (0, .ref 245), (1, .int x1), (2, .int x2), (3, .int x3), (4, .int x4), (5, .int x5)]) dX10_findReadable_88 (Nat.le_of_ble_eq_true rfl) rfl ?_
      refine ev_iload 0 dX10_findReadable_90 rfl ?_
      refine ev_bipush (-4) dX10_findReadable_92 (by decide) ?_
      refine ev_icmp_eq 101 dX10_findReadable_94 (by decide) (fun c9 => ?_) (fun c9 => ?_)
      · replace h := h.1 c9
        refine ev_iconst 0 dX10_findReadable_101 (by decide) ?_
        refine ev_istore_n (lv' := [(3, .int 0), (6, .int (σ1.1 271 (v1).toNatClampNeg)), (0, .ref 245), (1, .int x1), (2, .int x2), (4, .int x4), (5, .int x5)]) dX10_findReadable_102 (Nat.le_of_ble_eq_true rfl) rfl ?_
        refine ev_bipush 8 dX10_findReadable_103 (by decide) ?_
        refine ev_iload 5 dX10_findReadable_105 rfl ?_
        refine ev_imul dX10_findReadable_107 ?_
        refine ev_iload_n 0 dX10_findReadable_108 rfl ?_
        refine ev_if_eq 117 dX10_findReadable_109 (by decide) (fun c9 => ?_) (fun c9 => ?_)
        · refine ev_iconst 0 dX10_findReadable_117 (by decide) ?_
          refine ev_iadd dX10_findReadable_118 ?_
          refine ev_istore (lv' := [(4, .int ((8 * x4) + 0)), (3, .int 0), (6, .int (σ1.1 271 (v1).toNatClampNeg)), (0, .ref 245), (1, .int x1), (2, .int x2), (5, .int x5)]) dX10_findReadable_119 (Nat.le_of_ble_eq_true rfl) rfl ?_
          refine ev_iinc (lv' := [(5, .int (x5 + 1)), (4, .int ((8 * x4) + 0)), (3, .int 0), (6, .int (σ1.1 271 (v1).toNatClampNeg)), (0, .ref 245), (1, .int x1), (2, .int x2)]) (x5 + 1) 6 dX10_findReadable_121 rfl rfl (Nat.le_of_ble_eq_true rfl) rfl ?_
          refine ev_goto 61 dX10_findReadable_124 (by decide) ?_
          refine ev_sub [4, 5, 6, 2, 1, 0] rfl ?_
          exact h
        · exact absurd c9 (by decide)
      · replace h := h.2 c9
        refine ev_iconst 1 dX10_findReadable_97 (by decide) ?_
        refine ev_goto 102 dX10_findReadable_98 (by decide) ?_
        refine ev_istore_n (lv' := [(3, .int 1), (6, .int (σ1.1 271 (v1).toNatClampNeg)), (0, .ref 245), (1, .int x1), (2, .int x2), (4, .int x4), (5, .int x5)]) dX10_findReadable_102 (Nat.le_of_ble_eq_true rfl) rfl ?_
        refine ev_bipush 8 dX10_findReadable_103 (by decide) ?_
        refine ev_iload 5 dX10_findReadable_105 rfl ?_
        refine ev_imul dX10_findReadable_107 ?_
        refine ev_iload_n 0 dX10_findReadable_108 rfl ?_
        refine ev_if_eq 117 dX10_findReadable_109 (by decide) (fun c9 => ?_) (fun c9 => ?_)
        · exact absurd c9 (by decide)
        · refine ev_iload 1 dX10_findReadable_112 rfl ?_
          refine ev_goto 118 dX10_findReadable_114 (by decide) ?_
          refine ev_iadd dX10_findReadable_118 ?_
          refine ev_istore (lv' := [(4, .int ((8 * x4) + (σ1.1 271 (v1).toNatClampNeg))), (3, .int 1), (6, .int (σ1.1 271 (v1).toNatClampNeg)), (0, .ref 245), (1, .int x1), (2, .int x2), (5, .int x5)]) dX10_findReadable_119 (Nat.le_of_ble_eq_true rfl) rfl ?_
          refine ev_iinc (lv' := [(5, .int (x5 + 1)), (4, .int ((8 * x4) + (σ1.1 271 (v1).toNatClampNeg))), (3, .int 1), (6, .int (σ1.1 271 (v1).toNatClampNeg)), (0, .ref 245), (1, .int x1), (2, .int x2)]) (x5 + 1) 6 dX10_findReadable_121 rfl rfl (Nat.le_of_ble_eq_true rfl) rfl ?_
          refine ev_goto 61 dX10_findReadable_124 (by decide) ?_
          refine ev_sub [4, 5, 6, 2, 1, 0] rfl ?_
          exact h
abbrev KX10_readBy_4 (N : Nat) (σ : Sg) (Q : Option Value → Sg → Prop) (x1 : Int32) (x2 : Int32) (x3 : Int32) : Prop := Ev N mX10_readBy 4 [(0, .ref 245), (1, .int x1), (2, .int x2), (3, .int x3)] [] σ Q
abbrev KX10_readBy_25 (N : Nat) (σ : Sg) (Q : Option Value → Sg → Prop) (x1 : Int32) (x2 : Int32) (x3 : Int32) (x4 : Int32) (x5 : Int32) : Prop := Ev N mX10_readBy 25 [(0, .ref 245), (1, .int x1), (2, .int x2), (3, .int x3), (4, .int x4), (5, .int x5)] [] σ Q
theorem EX10_readBy {N : Nat} {σ : Sg} {Q : Option Value → Sg → Prop} {x1 : Int32} (h : KX10_readBy_4 N σ Q x1 0 0) : EvM N mX10_readBy [.ref 245, .int x1] σ Q := by
  refine ev_entry rfl (Nat.le_of_ble_eq_true rfl) (lv := [(0, .ref 245), (1, .int x1)]) rfl ?_
  refine ev_iconst 0 dX10_readBy_0 (by decide) ?_
  refine ev_istore_n (lv' := [(2, .int 0), (0, .ref 245), (1, .int x1)]) dX10_readBy_1 (Nat.le_of_ble_eq_true rfl) rfl ?_
  refine ev_iconst 0 dX10_readBy_2 (by decide) ?_
  refine ev_istore_n (lv' := [(3, .int 0), (2, .int 0), (0, .ref 245), (1, .int x1)]) dX10_readBy_3 (Nat.le_of_ble_eq_true rfl) rfl ?_
  refine ev_sub [2, 3, 1, 0] rfl ?_
  exact h
theorem BX10_readBy_4 {N : Nat} {σ : Sg} {Q : Option Value → Sg → Prop} {x1 : Int32} {x2 : Int32} {x3 : Int32} (h : ((σ.1 245 36) ≤ x3 → Q (some (.int x2)) σ) ∧ (¬ (σ.1 245 36) ≤ x3 → vp_in x3 104 ∧ (KX10_readBy_25 N σ Q x1 x2 x3 0 ((σ.1 272 (x3).toNatClampNeg) - 1)))) : KX10_readBy_4 N σ Q x1 x2 x3 := by
  refine ev_iload_n 3 dX10_readBy_4 rfl ?_
  refine ev_aload_n 0 dX10_readBy_5 rfl ?_
  refine ev_get G10 lay_245 (k := 36) rfl (Nat.le_of_ble_eq_true rfl) dX10_readBy_6 w_1262 ?_
  refine ev_icmp_ge 98 dX10_readBy_9 (by decide) (fun c9 => ?_) (fun c9 => ?_)
  · replace h := h.1 c9
    refine ev_iload_n 2 dX10_readBy_98 rfl ?_
    exact ev_iret rfl dX10_readBy_99 h
  · replace h := h.2 c9
    refine ev_iconst 0 dX10_readBy_12 (by decide) ?_
    refine ev_istore (lv' := [(4, .int 0), (0, .ref 245), (1, .int x1), (2, .int x2), (3, .int x3)]) dX10_readBy_13 (Nat.le_of_ble_eq_true rfl) rfl ?_
    refine ev_aload_n 1 dX10_readBy_15 rfl ?_
    refine ev_getR (r := 272) G10 lay_245 (k := 37) rfl (Nat.le_of_ble_eq_true rfl) dX10_readBy_16 w_1263 ?_
    refine ev_iload_n 4 dX10_readBy_19 rfl ?_
    have hb20 := h.1
    replace h := h.2
    refine ev_iald lay_272 (Nat.le_of_ble_eq_true rfl) hb20 dX10_readBy_20 ?_
    refine ev_iconst 1 dX10_readBy_21 (by decide) ?_
    refine ev_isub dX10_readBy_22 ?_
    refine ev_istore (lv' := [(5, .int ((σ.1 272 (x3).toNatClampNeg) - 1)), (4, .int 0), (0, .ref 245), (1, .int x1), (2, .int x2), (3, .int x3)]) dX10_readBy_23 (Nat.le_of_ble_eq_true rfl) rfl ?_
    refine ev_sub [2, 3, 4, 5, 1, 0] rfl ?_
    exact h
theorem BX10_readBy_25 {N : Nat} {σ : Sg} {Q : Option Value → Sg → Prop} {x1 : Int32} {x2 : Int32} {x3 : Int32} {x4 : Int32} {x5 : Int32} (h : (x5 < 0 → vp_in x3 104 ∧ (vp_in ((4096 * (σ.1 272 (x3).toNatClampNeg)) + x4) 28672 ∧ (((σ.1 274 ((4096 * (σ.1 272 (x3).toNatClampNeg)) + x4).toNatClampNeg) = 0 → KX10_readBy_4 N σ Q x1 (x2 + 0) (x3 + 1)) ∧ (¬ (σ.1 274 ((4096 * (σ.1 272 (x3).toNatClampNeg)) + x4).toNatClampNeg) = 0 → KX10_readBy_4 N σ Q x1 (x2 + 1) (x3 + 1))))) ∧ (¬ x5 < 0 → vp_in x3 104 ∧ (KX10_readBy_25 N σ Q x1 x2 x3 ((4 * x4) + ((x1 >>> ((2 * (((σ.1 273 (x3).toNatClampNeg) >>> ((3 * x5) &&& 31)) &&& 7)) &&& 31)) &&& 3)) (x5 + (-1))))) : KX10_readBy_25 N σ Q x1 x2 x3 x4 x5 := by
  refine ev_iload 5 dX10_readBy_25 rfl ?_
  refine ev_if_lt 63 dX10_readBy_27 (by decide) (fun c9 => ?_) (fun c9 => ?_)
  · replace h := h.1 c9
    refine ev_iload_n 2 dX10_readBy_63 rfl ?_
    refine ev_aload_n 0 dX10_readBy_64 rfl ?_
    refine ev_getR (r := 274) G10 lay_245 (k := 39) rfl (Nat.le_of_ble_eq_true rfl) dX10_readBy_65 w_1265 ?_
    refine ev_sipush 4096 dX10_readBy_68 (by decide) ?_
    refine ev_aload_n 0 dX10_readBy_71 rfl ?_
    refine ev_getR (r := 272) G10 lay_245 (k := 37) rfl (Nat.le_of_ble_eq_true rfl) dX10_readBy_72 w_1263 ?_
    refine ev_iload_n 3 dX10_readBy_75 rfl ?_
    have hb76 := h.1
    replace h := h.2
    refine ev_iald lay_272 (Nat.le_of_ble_eq_true rfl) hb76 dX10_readBy_76 ?_
    refine ev_imul dX10_readBy_77 ?_
    refine ev_iload 4 dX10_readBy_78 rfl ?_
    refine ev_iadd dX10_readBy_80 ?_
    have hb81 := h.1
    replace h := h.2
    refine ev_zald lay_274 (Nat.le_of_ble_eq_true rfl) hb81 dX10_readBy_81 ?_
    refine ev_if_eq 89 dX10_readBy_82 (by decide) (fun c9 => ?_) (fun c9 => ?_)
    · replace h := h.1 c9
      refine ev_iconst 0 dX10_readBy_89 (by decide) ?_
      refine ev_iadd dX10_readBy_90 ?_
      refine ev_istore_n (lv' := [(2, .int (x2 + 0)), (0, .ref 245), (1, .int x1), (3, .int x3), (4, .int x4), (5, .int x5)]) dX10_readBy_91 (Nat.le_of_ble_eq_true rfl) rfl ?_
      refine ev_iinc (lv' := [(3, .int (x3 + 1)), (2, .int (x2 + 0)), (0, .ref 245), (1, .int x1), (4, .int x4), (5, .int x5)]) (x3 + 1) 3 dX10_readBy_92 rfl rfl (Nat.le_of_ble_eq_true rfl) rfl ?_
      refine ev_goto 4 dX10_readBy_95 (by decide) ?_
      refine ev_sub [2, 3, 1, 0] rfl ?_
      exact h
    · replace h := h.2 c9
      refine ev_iconst 1 dX10_readBy_85 (by decide) ?_
      refine ev_goto 90 dX10_readBy_86 (by decide) ?_
      refine ev_iadd dX10_readBy_90 ?_
      refine ev_istore_n (lv' := [(2, .int (x2 + 1)), (0, .ref 245), (1, .int x1), (3, .int x3), (4, .int x4), (5, .int x5)]) dX10_readBy_91 (Nat.le_of_ble_eq_true rfl) rfl ?_
      refine ev_iinc (lv' := [(3, .int (x3 + 1)), (2, .int (x2 + 1)), (0, .ref 245), (1, .int x1), (4, .int x4), (5, .int x5)]) (x3 + 1) 3 dX10_readBy_92 rfl rfl (Nat.le_of_ble_eq_true rfl) rfl ?_
      refine ev_goto 4 dX10_readBy_95 (by decide) ?_
      refine ev_sub [2, 3, 1, 0] rfl ?_
      exact h
  · replace h := h.2 c9
    refine ev_iconst 4 dX10_readBy_30 (by decide) ?_
    refine ev_iload 4 dX10_readBy_31 rfl ?_
    refine ev_imul dX10_readBy_33 ?_
    refine ev_iload_n 1 dX10_readBy_34 rfl ?_
    refine ev_iconst 2 dX10_readBy_35 (by decide) ?_
    refine ev_aload_n 0 dX10_readBy_36 rfl ?_
    refine ev_getR (r := 273) G10 lay_245 (k := 38) rfl (Nat.le_of_ble_eq_true rfl) dX10_readBy_37 w_1264 ?_
    refine ev_iload_n 3 dX10_readBy_40 rfl ?_
    have hb41 := h.1
    replace h := h.2
    refine ev_iald lay_273 (Nat.le_of_ble_eq_true rfl) hb41 dX10_readBy_41 ?_
    refine ev_iconst 3 dX10_readBy_42 (by decide) ?_
    refine ev_iload 5 dX10_readBy_43 rfl ?_
    refine ev_imul dX10_readBy_45 ?_
    refine ev_ishr dX10_readBy_46 ?_
    refine ev_bipush 7 dX10_readBy_47 (by decide) ?_
    refine ev_iand dX10_readBy_49 ?_
    refine ev_imul dX10_readBy_50 ?_
    refine ev_ishr dX10_readBy_51 ?_
    refine ev_iconst 3 dX10_readBy_52 (by decide) ?_
    refine ev_iand dX10_readBy_53 ?_
    refine ev_iadd dX10_readBy_54 ?_
    refine ev_istore (lv' := [(4, .int ((4 * x4) + ((x1 >>> ((2 * (((σ.1 273 (x3).toNatClampNeg) >>> ((3 * x5) &&& 31)) &&& 7)) &&& 31)) &&& 3))), (0, .ref 245), (1, .int x1), (2, .int x2), (3, .int x3), (5, .int x5)]) dX10_readBy_55 (Nat.le_of_ble_eq_true rfl) rfl ?_
    refine ev_iinc (lv' := [(5, .int (x5 + (-1))), (4, .int ((4 * x4) + ((x1 >>> ((2 * (((σ.1 273 (x3).toNatClampNeg) >>> ((3 * x5) &&& 31)) &&& 7)) &&& 31)) &&& 3))), (0, .ref 245), (1, .int x1), (2, .int x2), (3, .int x3)]) (x5 + (-1)) 5 dX10_readBy_57 rfl rfl (Nat.le_of_ble_eq_true rfl) rfl ?_
    refine ev_goto 25 dX10_readBy_60 (by decide) ?_
    refine ev_sub [2, 3, 4, 5, 1, 0] rfl ?_
    exact h
theorem EX10_areTexts {N : Nat} {σ : Sg} {Q : Option Value → Sg → Prop} {x1 : Int32} (h : ((0 ≤ ((x1).toInt64).toInt ∧ ((x1).toInt64).toInt ≤ (((1 <<< ((σ.1 245 4) &&& 31)) - 1).toInt64).toInt) → Q (some (.int 1)) σ) ∧ (¬ (0 ≤ ((x1).toInt64).toInt ∧ ((x1).toInt64).toInt ≤ (((1 <<< ((σ.1 245 4) &&& 31)) - 1).toInt64).toInt) → Q (some (.int 0)) σ)) : EvM (N + 1) mX10_areTexts [.ref 245, .int x1] σ Q := by
  refine ev_entry rfl (Nat.le_of_ble_eq_true rfl) (lv := [(0, .ref 245), (1, .int x1)]) rfl ?_
  refine ev_iload_n 1 dX10_areTexts_0 rfl ?_
  refine ev_i2l dX10_areTexts_1 ?_
  refine ev_lconst 0 dX10_areTexts_2 (by decide) ?_
  refine ev_iconst 1 dX10_areTexts_3 (by decide) ?_
  refine ev_aload_n 0 dX10_areTexts_4 rfl ?_
  refine ev_get G10 lay_245 (k := 4) rfl (Nat.le_of_ble_eq_true rfl) dX10_areTexts_5 w_1230 ?_
  refine ev_ishl dX10_areTexts_8 ?_
  refine ev_iconst 1 dX10_areTexts_9 (by decide) ?_
  refine ev_isub dX10_areTexts_10 ?_
  refine ev_i2l dX10_areTexts_11 ?_
  refine ev_callS (M' := mX10_in) [.long ((x1).toInt64), .long 0, .long (((1 <<< ((σ.1 245 4) &&& 31)) - 1).toInt64)] vX10_in dX10_areTexts_12 w_1421 rfl rfl (Nat.le_of_ble_eq_true rfl) (C10_in (P := 0 ≤ ((x1).toInt64).toInt ∧ ((x1).toInt64).toInt ≤ (((1 <<< ((σ.1 245 4) &&& 31)) - 1).toInt64).toInt) (by (try simp only [i_l]); exact Iff.rfl) (Q := fun r9 s9 => σ = s9 ∧ ((r9 = some (.int 1) ∧ (0 ≤ ((x1).toInt64).toInt ∧ ((x1).toInt64).toInt ≤ (((1 <<< ((σ.1 245 4) &&& 31)) - 1).toInt64).toInt)) ∨ (r9 = some (.int 0) ∧ ¬ (0 ≤ ((x1).toInt64).toInt ∧ ((x1).toInt64).toInt ≤ (((1 <<< ((σ.1 245 4) &&& 31)) - 1).toInt64).toInt)))) ⟨fun c9 => ⟨rfl, Or.inl ⟨rfl, c9⟩⟩, fun c9 => ⟨rfl, Or.inr ⟨rfl, c9⟩⟩⟩) ?_
  rintro r9 s9 ⟨rfl, ⟨rfl, c9⟩ | ⟨rfl, c9⟩⟩
  · replace h := h.1 c9
    exact ev_zret (ty := .boolean) rfl (by rfl) dX10_areTexts_15 h
  · replace h := h.2 c9
    exact ev_zret (ty := .boolean) rfl (by rfl) dX10_areTexts_15 h
theorem EX10_read {N : Nat} {σ : Sg} {Q : Option Value → Sg → Prop} {x1 : Int32} {x2 : Int32} (h : EvM (N + 3) mX10_findTable [.ref 245] σ (fun r9 σ1 => r9 = none ∧ (EvM (N + 3) mX10_areTexts [.ref 245, .int x1] σ1 (fun r9 σ2 => ∃ v2, r9 = some (.int v2) ∧ ((v2 = 0 → Q (some (.int (-1))) σ2) ∧ (¬ v2 = 0 → ((0 ≤ ((x2).toInt64).toInt ∧ ((x2).toInt64).toInt ≤ (((1 <<< ((2 * (σ2.1 245 33)) &&& 31)) - 1).toInt64).toInt) → EvM (N + 3) mX10_findTongue [.ref 245] σ2 (fun r9 σ3 => r9 = none ∧ (EvM (N + 3) mX10_findReadable [.ref 245, .int x1] σ3 (fun r9 σ4 => r9 = none ∧ (EvM (N + 3) mX10_readBy [.ref 245, .int x2] σ4 (fun r9 σ5 => ∃ v5, r9 = some (.int v5) ∧ (Q (some (.int v5)) σ5))))))) ∧ (¬ (0 ≤ ((x2).toInt64).toInt ∧ ((x2).toInt64).toInt ≤ (((1 <<< ((2 * (σ2.1 245 33)) &&& 31)) - 1).toInt64).toInt) → Q (some (.int (-1))) σ2))))))) : EvM (N + 4) mX10_read [.ref 245, .int x1, .int x2] σ Q := by
  refine ev_entry rfl (Nat.le_of_ble_eq_true rfl) (lv := [(0, .ref 245), (1, .int x1), (2, .int x2)]) rfl ?_
  refine ev_aload_n 0 dX10_read_0 rfl ?_
  refine ev_callV (M' := mX10_findTable) [] vX10_findTable G10 lay_245 dX10_read_1 w_1625 rfl rfl (Nat.le_of_ble_eq_true rfl) h ?_
  rintro r9 σ1 ⟨rfl, h⟩
  refine ev_aload_n 0 dX10_read_4 rfl ?_
  refine ev_iload_n 1 dX10_read_5 rfl ?_
  refine ev_callV (M' := mX10_areTexts) [.int x1] vX10_areTexts G10 lay_245 dX10_read_6 w_1633 rfl rfl (Nat.le_of_ble_eq_true rfl) h ?_
  rintro r9 σ2 ⟨v2, rfl, h⟩
  refine ev_if_eq 32 dX10_read_9 (by decide) (fun c9 => ?_) (fun c9 => ?_)
  · replace h := h.1 c9
    refine ev_iconst (-1) dX10_read_32 (by decide) ?_
    exact ev_iret rfl dX10_read_33 h
  · replace h := h.2 c9
    refine ev_iload_n 2 dX10_read_12 rfl ?_
    refine ev_i2l dX10_read_13 ?_
    refine ev_lconst 0 dX10_read_14 (by decide) ?_
    refine ev_iconst 1 dX10_read_15 (by decide) ?_
    refine ev_iconst 2 dX10_read_16 (by decide) ?_
    refine ev_aload_n 0 dX10_read_17 rfl ?_
    refine ev_get G10 lay_245 (k := 33) rfl (Nat.le_of_ble_eq_true rfl) dX10_read_18 w_1259 ?_
    refine ev_imul dX10_read_21 ?_
    refine ev_ishl dX10_read_22 ?_
    refine ev_iconst 1 dX10_read_23 (by decide) ?_
    refine ev_isub dX10_read_24 ?_
    refine ev_i2l dX10_read_25 ?_
    refine ev_callS (M' := mX10_in) [.long ((x2).toInt64), .long 0, .long (((1 <<< ((2 * (σ2.1 245 33)) &&& 31)) - 1).toInt64)] vX10_in dX10_read_26 w_1421 rfl rfl (Nat.le_of_ble_eq_true rfl) (C10_in (P := 0 ≤ ((x2).toInt64).toInt ∧ ((x2).toInt64).toInt ≤ (((1 <<< ((2 * (σ2.1 245 33)) &&& 31)) - 1).toInt64).toInt) (by (try simp only [i_l]); exact Iff.rfl) (Q := fun r9 s9 => σ2 = s9 ∧ ((r9 = some (.int 1) ∧ (0 ≤ ((x2).toInt64).toInt ∧ ((x2).toInt64).toInt ≤ (((1 <<< ((2 * (σ2.1 245 33)) &&& 31)) - 1).toInt64).toInt)) ∨ (r9 = some (.int 0) ∧ ¬ (0 ≤ ((x2).toInt64).toInt ∧ ((x2).toInt64).toInt ≤ (((1 <<< ((2 * (σ2.1 245 33)) &&& 31)) - 1).toInt64).toInt)))) ⟨fun c9 => ⟨rfl, Or.inl ⟨rfl, c9⟩⟩, fun c9 => ⟨rfl, Or.inr ⟨rfl, c9⟩⟩⟩) ?_
    rintro r9 s9 ⟨rfl, ⟨rfl, c9⟩ | ⟨rfl, c9⟩⟩
    · replace h := h.1 c9
      refine ev_if_ne 34 dX10_read_29 (by decide) (fun c9 => ?_) (fun c9 => ?_)
      · refine ev_aload_n 0 dX10_read_34 rfl ?_
        refine ev_callV (M' := mX10_findTongue) [] vX10_findTongue G10 lay_245 dX10_read_35 w_1637 rfl rfl (Nat.le_of_ble_eq_true rfl) h ?_
        rintro r9 σ3 ⟨rfl, h⟩
        refine ev_aload_n 0 dX10_read_38 rfl ?_
        refine ev_iload_n 1 dX10_read_39 rfl ?_
        refine ev_callV (M' := mX10_findReadable) [.int x1] vX10_findReadable G10 lay_245 dX10_read_40 w_1641 rfl rfl (Nat.le_of_ble_eq_true rfl) h ?_
        rintro r9 σ4 ⟨rfl, h⟩
        refine ev_aload_n 0 dX10_read_43 rfl ?_
        refine ev_iload_n 2 dX10_read_44 rfl ?_
        refine ev_callV (M' := mX10_readBy) [.int x2] vX10_readBy G10 lay_245 dX10_read_45 w_1645 rfl rfl (Nat.le_of_ble_eq_true rfl) h ?_
        rintro r9 σ5 ⟨v5, rfl, h⟩
        exact ev_iret rfl dX10_read_48 h
      · exact absurd c9 (by decide)
    · replace h := h.2 c9
      refine ev_if_ne 34 dX10_read_29 (by decide) (fun c9 => ?_) (fun c9 => ?_)
      · exact absurd c9 (by decide)
      · refine ev_iconst (-1) dX10_read_32 (by decide) ?_
        exact ev_iret rfl dX10_read_33 h
abbrev KX10_turned_4 (N : Nat) (σ : Sg) (Q : Option Value → Sg → Prop) (x1 : Int32) (x2 : Int32) (x3 : Int32) : Prop := Ev N mX10_turned 4 [(0, .ref 245), (1, .int x1), (2, .int x2), (3, .int x3)] [] σ Q
theorem EX10_turned {N : Nat} {σ : Sg} {Q : Option Value → Sg → Prop} {x1 : Int32} (h : KX10_turned_4 N σ Q x1 0 0) : EvM N mX10_turned [.ref 245, .int x1] σ Q := by
  refine ev_entry rfl (Nat.le_of_ble_eq_true rfl) (lv := [(0, .ref 245), (1, .int x1)]) rfl ?_
  refine ev_iconst 0 dX10_turned_0 (by decide) ?_
  refine ev_istore_n (lv' := [(2, .int 0), (0, .ref 245), (1, .int x1)]) dX10_turned_1 (Nat.le_of_ble_eq_true rfl) rfl ?_
  refine ev_iconst 0 dX10_turned_2 (by decide) ?_
  refine ev_istore_n (lv' := [(3, .int 0), (2, .int 0), (0, .ref 245), (1, .int x1)]) dX10_turned_3 (Nat.le_of_ble_eq_true rfl) rfl ?_
  refine ev_sub [2, 3, 1, 0] rfl ?_
  exact h
theorem BX10_turned_4 {N : Nat} {σ : Sg} {Q : Option Value → Sg → Prop} {x1 : Int32} {x2 : Int32} {x3 : Int32} (h : ((σ.1 245 33) ≤ x3 → Q (some (.int x2)) σ) ∧ (¬ (σ.1 245 33) ≤ x3 → KX10_turned_4 N σ Q x1 ((4 * x2) + ((x1 >>> ((2 * x3) &&& 31)) &&& 3)) (x3 + 1))) : KX10_turned_4 N σ Q x1 x2 x3 := by
  refine ev_iload_n 3 dX10_turned_4 rfl ?_
  refine ev_aload_n 0 dX10_turned_5 rfl ?_
  refine ev_get G10 lay_245 (k := 33) rfl (Nat.le_of_ble_eq_true rfl) dX10_turned_6 w_1259 ?_
  refine ev_icmp_ge 30 dX10_turned_9 (by decide) (fun c9 => ?_) (fun c9 => ?_)
  · replace h := h.1 c9
    refine ev_iload_n 2 dX10_turned_30 rfl ?_
    exact ev_iret rfl dX10_turned_31 h
  · replace h := h.2 c9
    refine ev_iconst 4 dX10_turned_12 (by decide) ?_
    refine ev_iload_n 2 dX10_turned_13 rfl ?_
    refine ev_imul dX10_turned_14 ?_
    refine ev_iload_n 1 dX10_turned_15 rfl ?_
    refine ev_iconst 2 dX10_turned_16 (by decide) ?_
    refine ev_iload_n 3 dX10_turned_17 rfl ?_
    refine ev_imul dX10_turned_18 ?_
    refine ev_ishr dX10_turned_19 ?_
    refine ev_iconst 3 dX10_turned_20 (by decide) ?_
    refine ev_iand dX10_turned_21 ?_
    refine ev_iadd dX10_turned_22 ?_
    refine ev_istore_n (lv' := [(2, .int ((4 * x2) + ((x1 >>> ((2 * x3) &&& 31)) &&& 3))), (0, .ref 245), (1, .int x1), (3, .int x3)]) dX10_turned_23 (Nat.le_of_ble_eq_true rfl) rfl ?_
    refine ev_iinc (lv' := [(3, .int (x3 + 1)), (2, .int ((4 * x2) + ((x1 >>> ((2 * x3) &&& 31)) &&& 3))), (0, .ref 245), (1, .int x1)]) (x3 + 1) 3 dX10_turned_24 rfl rfl (Nat.le_of_ble_eq_true rfl) rfl ?_
    refine ev_goto 4 dX10_turned_27 (by decide) ?_
    refine ev_sub [2, 3, 1, 0] rfl ?_
    exact h
abbrev KX10_findBest_25 (N : Nat) (σ : Sg) (Q : Option Value → Sg → Prop) (x2 : Int32) : Prop := Ev (N + 4) mX10_findBest 25 [(0, .ref 245), (2, .int x2)] [] σ Q
theorem EX10_findBest {N : Nat} {σ : Sg} {Q : Option Value → Sg → Prop} {x1 : Int32} (h : EvM (N + 3) mX10_findTable [.ref 245] σ (fun r9 σ1 => r9 = none ∧ (EvM (N + 3) mX10_findTongue [.ref 245] σ1 (fun r9 σ2 => r9 = none ∧ (EvM (N + 3) mX10_findReadable [.ref 245, .int x1] σ2 (fun r9 σ3 => r9 = none ∧ (KX10_findBest_25 N (u1 (u1 σ3 245 41 (-1)) 245 42 0) Q 0))))))) : EvM (N + 4) mX10_findBest [.ref 245, .int x1] σ Q := by
  refine ev_entry rfl (Nat.le_of_ble_eq_true rfl) (lv := [(0, .ref 245), (1, .int x1)]) rfl ?_
  refine ev_aload_n 0 dX10_findBest_0 rfl ?_
  refine ev_callV (M' := mX10_findTable) [] vX10_findTable G10 lay_245 dX10_findBest_1 w_1625 rfl rfl (Nat.le_of_ble_eq_true rfl) h ?_
  rintro r9 σ1 ⟨rfl, h⟩
  refine ev_aload_n 0 dX10_findBest_4 rfl ?_
  refine ev_callV (M' := mX10_findTongue) [] vX10_findTongue G10 lay_245 dX10_findBest_5 w_1637 rfl rfl (Nat.le_of_ble_eq_true rfl) h ?_
  rintro r9 σ2 ⟨rfl, h⟩
  refine ev_aload_n 0 dX10_findBest_8 rfl ?_
  refine ev_iload_n 1 dX10_findBest_9 rfl ?_
  refine ev_callV (M' := mX10_findReadable) [.int x1] vX10_findReadable G10 lay_245 dX10_findBest_10 w_1641 rfl rfl (Nat.le_of_ble_eq_true rfl) h ?_
  rintro r9 σ3 ⟨rfl, h⟩
  refine ev_aload_n 0 dX10_findBest_13 rfl ?_
  refine ev_iconst (-1) dX10_findBest_14 (by decide) ?_
  refine ev_put G10 lay_245 (k := 41) rfl (Nat.le_of_ble_eq_true rfl) rfl (by decide +kernel) dX10_findBest_15 w_1267 ?_
  refine ev_aload_n 0 dX10_findBest_18 rfl ?_
  refine ev_iconst 0 dX10_findBest_19 (by decide) ?_
  refine ev_put G10 lay_245 (k := 42) rfl (Nat.le_of_ble_eq_true rfl) rfl (by decide +kernel) dX10_findBest_20 w_1268 ?_
  refine ev_iconst 0 dX10_findBest_23 (by decide) ?_
  refine ev_istore_n (lv' := [(2, .int 0), (0, .ref 245), (1, .int x1)]) dX10_findBest_24 (Nat.le_of_ble_eq_true rfl) rfl ?_
  refine ev_sub [1, 0] rfl ?_
  exact h
theorem BX10_findBest_25 {N : Nat} {σ : Sg} {Q : Option Value → Sg → Prop} {x2 : Int32} (h : ((1 <<< ((2 * (σ.1 245 33)) &&& 31)) ≤ x2 → Q none σ) ∧ (¬ (1 <<< ((2 * (σ.1 245 33)) &&& 31)) ≤ x2 → EvM (N + 3) mX10_turned [.ref 245, .int x2] σ (fun r9 σ4 => ∃ v4, r9 = some (.int v4) ∧ (EvM (N + 3) mX10_readBy [.ref 245, .int v4] σ4 (fun r9 σ5 => ∃ v5, r9 = some (.int v5) ∧ ((v5 ≤ (σ5.1 245 41) → (v5 = (σ5.1 245 41) → KX10_findBest_25 N (u1 σ5 245 42 ((σ5.1 245 42) + 1)) Q (x2 + 1)) ∧ (¬ v5 = (σ5.1 245 41) → KX10_findBest_25 N (u1 σ5 245 42 ((σ5.1 245 42) + 0)) Q (x2 + 1))) ∧ (¬ v5 ≤ (σ5.1 245 41) → (v5 = ((u1 (u1 (u1 σ5 245 40 v4) 245 41 v5) 245 42 0).1 245 41) → KX10_findBest_25 N (u1 (u1 (u1 (u1 σ5 245 40 v4) 245 41 v5) 245 42 0) 245 42 (((u1 (u1 (u1 σ5 245 40 v4) 245 41 v5) 245 42 0).1 245 42) + 1)) Q (x2 + 1)) ∧ (¬ v5 = ((u1 (u1 (u1 σ5 245 40 v4) 245 41 v5) 245 42 0).1 245 41) → KX10_findBest_25 N (u1 (u1 (u1 (u1 σ5 245 40 v4) 245 41 v5) 245 42 0) 245 42 (((u1 (u1 (u1 σ5 245 40 v4) 245 41 v5) 245 42 0).1 245 42) + 0)) Q (x2 + 1))))))))) : KX10_findBest_25 N σ Q x2 := by
  refine ev_iload_n 1 dX10_findBest_25 rfl ?_
  refine ev_iconst 1 dX10_findBest_26 (by decide) ?_
  refine ev_iconst 2 dX10_findBest_27 (by decide) ?_
  refine ev_aload_n 0 dX10_findBest_28 rfl ?_
  refine ev_get G10 lay_245 (k := 33) rfl (Nat.le_of_ble_eq_true rfl) dX10_findBest_29 w_1259 ?_
  refine ev_imul dX10_findBest_32 ?_
  refine ev_ishl dX10_findBest_33 ?_
  refine ev_icmp_ge 104 dX10_findBest_34 (by decide) (fun c9 => ?_) (fun c9 => ?_)
  · replace h := h.1 c9
    exact ev_vret rfl dX10_findBest_104 h
  · replace h := h.2 c9
    refine ev_aload_n 0 dX10_findBest_37 rfl ?_
    refine ev_iload_n 1 dX10_findBest_38 rfl ?_
    refine ev_callV (M' := mX10_turned) [.int x2] vX10_turned G10 lay_245 dX10_findBest_39 w_1657 rfl rfl (Nat.le_of_ble_eq_true rfl) h ?_
    rintro r9 σ4 ⟨v4, rfl, h⟩
    refine ev_istore_n (lv' := [(3, .int v4), (0, .ref 245), (2, .int x2)]) dX10_findBest_42 (Nat.le_of_ble_eq_true rfl) rfl ?_
    refine ev_aload_n 1 dX10_findBest_43 rfl ?_
    refine ev_iload_n 0 dX10_findBest_44 rfl ?_
    refine ev_callV (M' := mX10_readBy) [.int v4] vX10_readBy G10 lay_245 dX10_findBest_45 w_1645 rfl rfl (Nat.le_of_ble_eq_true rfl) h ?_
    rintro r9 σ5 ⟨v5, rfl, h⟩
    refine ev_istore (lv' := [(4, .int v5), (3, .int v4), (0, .ref 245), (2, .int x2)]) dX10_findBest_48 (Nat.le_of_ble_eq_true rfl) rfl ?_
    refine ev_iload 0 dX10_findBest_50 rfl ?_
    refine ev_aload_n 2 dX10_findBest_52 rfl ?_
    refine ev_get G10 lay_245 (k := 41) rfl (Nat.le_of_ble_eq_true rfl) dX10_findBest_53 w_1267 ?_
    refine ev_icmp_le 75 dX10_findBest_56 (by decide) (fun c9 => ?_) (fun c9 => ?_)
    · replace h := h.1 c9
      refine ev_aload_n 2 dX10_findBest_75 rfl ?_
      refine ev_dup dX10_findBest_76 rfl ?_
      refine ev_get G10 lay_245 (k := 42) rfl (Nat.le_of_ble_eq_true rfl) dX10_findBest_77 w_1268 ?_
      refine ev_iload 0 dX10_findBest_80 rfl ?_
      refine ev_aload_n 2 dX10_findBest_82 rfl ?_
      refine ev_get G10 lay_245 (k := 41) rfl (Nat.le_of_ble_eq_true rfl) dX10_findBest_83 w_1267 ?_
      refine ev_icmp_ne 93 dX10_findBest_86 (by decide) (fun c9 => ?_) (fun c9 => ?_)
      · replace h := h.2 c9
        refine ev_iconst 0 dX10_findBest_93 (by decide) ?_
        refine ev_iadd dX10_findBest_94 ?_
        refine ev_put G10 lay_245 (k := 42) rfl (Nat.le_of_ble_eq_true rfl) rfl (by decide +kernel) dX10_findBest_95 w_1268 ?_
        refine ev_iinc (lv' := [(2, .int (x2 + 1)), (4, .int v5), (3, .int v4), (0, .ref 245)]) (x2 + 1) 3 dX10_findBest_98 rfl rfl (Nat.le_of_ble_eq_true rfl) rfl ?_
        refine ev_goto 25 dX10_findBest_101 (by decide) ?_
        refine ev_sub [3, 0] rfl ?_
        exact h
      · replace h := h.1 c9
        refine ev_iconst 1 dX10_findBest_89 (by decide) ?_
        refine ev_goto 94 dX10_findBest_90 (by decide) ?_
        refine ev_iadd dX10_findBest_94 ?_
        refine ev_put G10 lay_245 (k := 42) rfl (Nat.le_of_ble_eq_true rfl) rfl (by decide +kernel) dX10_findBest_95 w_1268 ?_
        refine ev_iinc (lv' := [(2, .int (x2 + 1)), (4, .int v5), (3, .int v4), (0, .ref 245)]) (x2 + 1) 3 dX10_findBest_98 rfl rfl (Nat.le_of_ble_eq_true rfl) rfl ?_
        refine ev_goto 25 dX10_findBest_101 (by decide) ?_
        refine ev_sub [3, 0] rfl ?_
        exact h
    · replace h := h.2 c9
      refine ev_aload_n 2 dX10_findBest_59 rfl ?_
      refine ev_iload_n 1 dX10_findBest_60 rfl ?_
      refine ev_put G10 lay_245 (k := 40) rfl (Nat.le_of_ble_eq_true rfl) rfl (by decide +kernel) dX10_findBest_61 w_1266 ?_
      refine ev_aload_n 2 dX10_findBest_64 rfl ?_
      refine ev_iload 0 dX10_findBest_65 rfl ?_
      refine ev_put G10 lay_245 (k := 41) rfl (Nat.le_of_ble_eq_true rfl) rfl (by decide +kernel) dX10_findBest_67 w_1267 ?_
      refine ev_aload_n 2 dX10_findBest_70 rfl ?_
      refine ev_iconst 0 dX10_findBest_71 (by decide) ?_
      refine ev_put G10 lay_245 (k := 42) rfl (Nat.le_of_ble_eq_true rfl) rfl (by decide +kernel) dX10_findBest_72 w_1268 ?_
      refine ev_aload_n 2 dX10_findBest_75 rfl ?_
      refine ev_dup dX10_findBest_76 rfl ?_
      refine ev_get G10 lay_245 (k := 42) rfl (Nat.le_of_ble_eq_true rfl) dX10_findBest_77 w_1268 ?_
      refine ev_iload 0 dX10_findBest_80 rfl ?_
      refine ev_aload_n 2 dX10_findBest_82 rfl ?_
      refine ev_get G10 lay_245 (k := 41) rfl (Nat.le_of_ble_eq_true rfl) dX10_findBest_83 w_1267 ?_
      refine ev_icmp_ne 93 dX10_findBest_86 (by decide) (fun c9 => ?_) (fun c9 => ?_)
      · replace h := h.2 c9
        refine ev_iconst 0 dX10_findBest_93 (by decide) ?_
        refine ev_iadd dX10_findBest_94 ?_
        refine ev_put G10 lay_245 (k := 42) rfl (Nat.le_of_ble_eq_true rfl) rfl (by decide +kernel) dX10_findBest_95 w_1268 ?_
        refine ev_iinc (lv' := [(2, .int (x2 + 1)), (4, .int v5), (3, .int v4), (0, .ref 245)]) (x2 + 1) 3 dX10_findBest_98 rfl rfl (Nat.le_of_ble_eq_true rfl) rfl ?_
        refine ev_goto 25 dX10_findBest_101 (by decide) ?_
        refine ev_sub [3, 0] rfl ?_
        exact h
      · replace h := h.1 c9
        refine ev_iconst 1 dX10_findBest_89 (by decide) ?_
        refine ev_goto 94 dX10_findBest_90 (by decide) ?_
        refine ev_iadd dX10_findBest_94 ?_
        refine ev_put G10 lay_245 (k := 42) rfl (Nat.le_of_ble_eq_true rfl) rfl (by decide +kernel) dX10_findBest_95 w_1268 ?_
        refine ev_iinc (lv' := [(2, .int (x2 + 1)), (4, .int v5), (3, .int v4), (0, .ref 245)]) (x2 + 1) 3 dX10_findBest_98 rfl rfl (Nat.le_of_ble_eq_true rfl) rfl ?_
        refine ev_goto 25 dX10_findBest_101 (by decide) ?_
        refine ev_sub [3, 0] rfl ?_
        exact h
theorem EX10_best {N : Nat} {σ : Sg} {Q : Option Value → Sg → Prop} {x1 : Int32} {x2 : Int32} (h : EvM (N + 4) mX10_areTexts [.ref 245, .int x1] σ (fun r9 σ1 => ∃ v1, r9 = some (.int v1) ∧ ((v1 = 0 → Q (some (.int (-1))) σ1) ∧ (¬ v1 = 0 → ((0 ≤ ((x2).toInt64).toInt ∧ ((x2).toInt64).toInt ≤ 2) → EvM (N + 4) mX10_findBest [.ref 245, .int x1] σ1 (fun r9 σ2 => r9 = none ∧ ((x2 = 0 → Q (some (.int (σ2.1 245 40))) σ2) ∧ (¬ x2 = 0 → (x2 = 1 → Q (some (.int (σ2.1 245 41))) σ2) ∧ (¬ x2 = 1 → Q (some (.int (σ2.1 245 42))) σ2))))) ∧ (¬ (0 ≤ ((x2).toInt64).toInt ∧ ((x2).toInt64).toInt ≤ 2) → Q (some (.int (-1))) σ1))))) : EvM (N + 5) mX10_best [.ref 245, .int x1, .int x2] σ Q := by
  refine ev_entry rfl (Nat.le_of_ble_eq_true rfl) (lv := [(0, .ref 245), (1, .int x1), (2, .int x2)]) rfl ?_
  refine ev_aload_n 0 dX10_best_0 rfl ?_
  refine ev_iload_n 1 dX10_best_1 rfl ?_
  refine ev_callV (M' := mX10_areTexts) [.int x1] vX10_areTexts G10 lay_245 dX10_best_2 w_1633 rfl rfl (Nat.le_of_ble_eq_true rfl) h ?_
  rintro r9 σ1 ⟨v1, rfl, h⟩
  refine ev_if_eq 20 dX10_best_5 (by decide) (fun c9 => ?_) (fun c9 => ?_)
  · replace h := h.1 c9
    refine ev_iconst (-1) dX10_best_20 (by decide) ?_
    exact ev_iret rfl dX10_best_21 h
  · replace h := h.2 c9
    refine ev_iload_n 2 dX10_best_8 rfl ?_
    refine ev_i2l dX10_best_9 ?_
    refine ev_lconst 0 dX10_best_10 (by decide) ?_
    refine ev_ldc2 2 dX10_best_11 w_1504 ?_
    refine ev_callS (M' := mX10_in) [.long ((x2).toInt64), .long 0, .long 2] vX10_in dX10_best_14 w_1421 rfl rfl (Nat.le_of_ble_eq_true rfl) (C10_in (P := 0 ≤ ((x2).toInt64).toInt ∧ ((x2).toInt64).toInt ≤ 2) (by (try simp only [i_l]); exact Iff.rfl) (Q := fun r9 s9 => σ1 = s9 ∧ ((r9 = some (.int 1) ∧ (0 ≤ ((x2).toInt64).toInt ∧ ((x2).toInt64).toInt ≤ 2)) ∨ (r9 = some (.int 0) ∧ ¬ (0 ≤ ((x2).toInt64).toInt ∧ ((x2).toInt64).toInt ≤ 2)))) ⟨fun c9 => ⟨rfl, Or.inl ⟨rfl, c9⟩⟩, fun c9 => ⟨rfl, Or.inr ⟨rfl, c9⟩⟩⟩) ?_
    rintro r9 s9 ⟨rfl, ⟨rfl, c9⟩ | ⟨rfl, c9⟩⟩
    · replace h := h.1 c9
      refine ev_if_ne 22 dX10_best_17 (by decide) (fun c9 => ?_) (fun c9 => ?_)
      · refine ev_aload_n 0 dX10_best_22 rfl ?_
        refine ev_iload_n 1 dX10_best_23 rfl ?_
        refine ev_callV (M' := mX10_findBest) [.int x1] vX10_findBest G10 lay_245 dX10_best_24 w_1653 rfl rfl (Nat.le_of_ble_eq_true rfl) h ?_
        rintro r9 σ2 ⟨rfl, h⟩
        refine ev_iload_n 2 dX10_best_27 rfl ?_
        refine ev_if_ne 38 dX10_best_28 (by decide) (fun c9 => ?_) (fun c9 => ?_)
        · replace h := h.2 c9
          refine ev_iload_n 2 dX10_best_38 rfl ?_
          refine ev_iconst 1 dX10_best_39 (by decide) ?_
          refine ev_icmp_ne 50 dX10_best_40 (by decide) (fun c9 => ?_) (fun c9 => ?_)
          · replace h := h.2 c9
            refine ev_aload_n 0 dX10_best_50 rfl ?_
            refine ev_get G10 lay_245 (k := 42) rfl (Nat.le_of_ble_eq_true rfl) dX10_best_51 w_1268 ?_
            exact ev_iret rfl dX10_best_54 h
          · replace h := h.1 c9
            refine ev_aload_n 0 dX10_best_43 rfl ?_
            refine ev_get G10 lay_245 (k := 41) rfl (Nat.le_of_ble_eq_true rfl) dX10_best_44 w_1267 ?_
            refine ev_goto 54 dX10_best_47 (by decide) ?_
            exact ev_iret rfl dX10_best_54 h
        · replace h := h.1 c9
          refine ev_aload_n 0 dX10_best_31 rfl ?_
          refine ev_get G10 lay_245 (k := 40) rfl (Nat.le_of_ble_eq_true rfl) dX10_best_32 w_1266 ?_
          refine ev_goto 54 dX10_best_35 (by decide) ?_
          exact ev_iret rfl dX10_best_54 h
      · exact absurd c9 (by decide)
    · replace h := h.2 c9
      refine ev_if_ne 22 dX10_best_17 (by decide) (fun c9 => ?_) (fun c9 => ?_)
      · exact absurd c9 (by decide)
      · refine ev_iconst (-1) dX10_best_20 (by decide) ?_
        exact ev_iret rfl dX10_best_21 h
abbrev KX10_goesOn_7 (N : Nat) (σ : Sg) (Q : Option Value → Sg → Prop) (x1 : Int32) : Prop := Ev N mX10_goesOn 7 [(0, .ref 245), (1, .int x1)] [] σ Q
abbrev KX10_goesOn_47 (N : Nat) (σ : Sg) (Q : Option Value → Sg → Prop) (x1 : Int32) (x2 : Int32) : Prop := Ev N mX10_goesOn 47 [(0, .ref 245), (1, .int x1), (2, .int x2)] [] σ Q
abbrev KX10_goesOn_107 (N : Nat) (σ : Sg) (Q : Option Value → Sg → Prop) (x4 : Int32) (x5 : Int32) : Prop := Ev N mX10_goesOn 107 [(0, .ref 245), (4, .int x4), (5, .int x5)] [] σ Q
theorem EX10_goesOn {N : Nat} {σ : Sg} {Q : Option Value → Sg → Prop} (h : KX10_goesOn_7 N σ Q ((σ.1 245 33) - 2)) : EvM N mX10_goesOn [.ref 245] σ Q := by
  refine ev_entry rfl (Nat.le_of_ble_eq_true rfl) (lv := [(0, .ref 245)]) rfl ?_
  refine ev_aload_n 0 dX10_goesOn_0 rfl ?_
  refine ev_get G10 lay_245 (k := 33) rfl (Nat.le_of_ble_eq_true rfl) dX10_goesOn_1 w_1259 ?_
  refine ev_iconst 2 dX10_goesOn_4 (by decide) ?_
  refine ev_isub dX10_goesOn_5 ?_
  refine ev_istore_n (lv' := [(1, .int ((σ.1 245 33) - 2)), (0, .ref 245)]) dX10_goesOn_6 (Nat.le_of_ble_eq_true rfl) rfl ?_
  refine ev_sub [1, 0] rfl ?_
  exact h
theorem BX10_goesOn_7 {N : Nat} {σ : Sg} {Q : Option Value → Sg → Prop} {x1 : Int32} (h : (x1 < 0 → (0 ≤ x1 → KX10_goesOn_47 N σ Q x1 ((σ.1 245 33) - 1)) ∧ (¬ 0 ≤ x1 → Q (some (.int 0)) σ)) ∧ (¬ x1 < 0 → vp_in x1 6 ∧ (vp_in (x1 + 1) 6 ∧ (((σ.1 275 (x1).toNatClampNeg) ≤ (σ.1 275 (x1 + 1).toNatClampNeg) → (0 ≤ x1 → KX10_goesOn_47 N σ Q x1 ((σ.1 245 33) - 1)) ∧ (¬ 0 ≤ x1 → Q (some (.int 0)) σ)) ∧ (¬ (σ.1 275 (x1).toNatClampNeg) ≤ (σ.1 275 (x1 + 1).toNatClampNeg) → KX10_goesOn_7 N σ Q (x1 + (-1))))))) : KX10_goesOn_7 N σ Q x1 := by
  refine ev_iload_n 1 dX10_goesOn_7 rfl ?_
  refine ev_if_lt 34 dX10_goesOn_8 (by decide) (fun c9 => ?_) (fun c9 => ?_)
  · replace h := h.1 c9
    refine ev_iload_n 1 dX10_goesOn_34 rfl ?_
    refine ev_if_ge 40 dX10_goesOn_35 (by decide) (fun c9 => ?_) (fun c9 => ?_)
    · replace h := h.1 c9
      refine ev_aload_n 0 dX10_goesOn_40 rfl ?_
      refine ev_get G10 lay_245 (k := 33) rfl (Nat.le_of_ble_eq_true rfl) dX10_goesOn_41 w_1259 ?_
      refine ev_iconst 1 dX10_goesOn_44 (by decide) ?_
      refine ev_isub dX10_goesOn_45 ?_
      refine ev_istore_n (lv' := [(2, .int ((σ.1 245 33) - 1)), (0, .ref 245), (1, .int x1)]) dX10_goesOn_46 (Nat.le_of_ble_eq_true rfl) rfl ?_
      refine ev_sub [1, 2, 0] rfl ?_
      exact h
    · replace h := h.2 c9
      refine ev_iconst 0 dX10_goesOn_38 (by decide) ?_
      exact ev_zret (ty := .boolean) rfl (by rfl) dX10_goesOn_39 h
  · replace h := h.2 c9
    refine ev_aload_n 0 dX10_goesOn_11 rfl ?_
    refine ev_getR (r := 275) G10 lay_245 (k := 43) rfl (Nat.le_of_ble_eq_true rfl) dX10_goesOn_12 w_1269 ?_
    refine ev_iload_n 1 dX10_goesOn_15 rfl ?_
    have hb16 := h.1
    replace h := h.2
    refine ev_iald lay_275 (Nat.le_of_ble_eq_true rfl) hb16 dX10_goesOn_16 ?_
    refine ev_aload_n 0 dX10_goesOn_17 rfl ?_
    refine ev_getR (r := 275) G10 lay_245 (k := 43) rfl (Nat.le_of_ble_eq_true rfl) dX10_goesOn_18 w_1269 ?_
    refine ev_iload_n 1 dX10_goesOn_21 rfl ?_
    refine ev_iconst 1 dX10_goesOn_22 (by decide) ?_
    refine ev_iadd dX10_goesOn_23 ?_
    have hb24 := h.1
    replace h := h.2
    refine ev_iald lay_275 (Nat.le_of_ble_eq_true rfl) hb24 dX10_goesOn_24 ?_
    refine ev_icmp_le 34 dX10_goesOn_25 (by decide) (fun c9 => ?_) (fun c9 => ?_)
    · replace h := h.1 c9
      refine ev_iload_n 1 dX10_goesOn_34 rfl ?_
      refine ev_if_ge 40 dX10_goesOn_35 (by decide) (fun c9 => ?_) (fun c9 => ?_)
      · replace h := h.1 c9
        refine ev_aload_n 0 dX10_goesOn_40 rfl ?_
        refine ev_get G10 lay_245 (k := 33) rfl (Nat.le_of_ble_eq_true rfl) dX10_goesOn_41 w_1259 ?_
        refine ev_iconst 1 dX10_goesOn_44 (by decide) ?_
        refine ev_isub dX10_goesOn_45 ?_
        refine ev_istore_n (lv' := [(2, .int ((σ.1 245 33) - 1)), (0, .ref 245), (1, .int x1)]) dX10_goesOn_46 (Nat.le_of_ble_eq_true rfl) rfl ?_
        refine ev_sub [1, 2, 0] rfl ?_
        exact h
      · replace h := h.2 c9
        refine ev_iconst 0 dX10_goesOn_38 (by decide) ?_
        exact ev_zret (ty := .boolean) rfl (by rfl) dX10_goesOn_39 h
    · replace h := h.2 c9
      refine ev_iinc (lv' := [(1, .int (x1 + (-1))), (0, .ref 245)]) (x1 + (-1)) 1 dX10_goesOn_28 rfl rfl (Nat.le_of_ble_eq_true rfl) rfl ?_
      refine ev_goto 7 dX10_goesOn_31 (by decide) ?_
      refine ev_sub [1, 0] rfl ?_
      exact h
theorem BX10_goesOn_47 {N : Nat} {σ : Sg} {Q : Option Value → Sg → Prop} {x1 : Int32} {x2 : Int32} (h : vp_in x2 6 ∧ (vp_in x1 6 ∧ (((σ.1 275 (x1).toNatClampNeg) ≤ (σ.1 275 (x2).toNatClampNeg) → vp_in x1 6 ∧ (vp_in x2 6 ∧ (vp_in x1 6 ∧ (vp_in x2 6 ∧ (KX10_goesOn_107 N (u1 (u1 σ 275 (x1).toNatClampNeg (σ.1 275 (x2).toNatClampNeg)) 275 (x2).toNatClampNeg (σ.1 275 (x1).toNatClampNeg)) Q (x1 + 1) (((u1 (u1 σ 275 (x1).toNatClampNeg (σ.1 275 (x2).toNatClampNeg)) 275 (x2).toNatClampNeg (σ.1 275 (x1).toNatClampNeg)).1 245 33) - 1)))))) ∧ (¬ (σ.1 275 (x1).toNatClampNeg) ≤ (σ.1 275 (x2).toNatClampNeg) → KX10_goesOn_47 N σ Q x1 (x2 + (-1)))))) : KX10_goesOn_47 N σ Q x1 x2 := by
  refine ev_aload_n 0 dX10_goesOn_47 rfl ?_
  refine ev_getR (r := 275) G10 lay_245 (k := 43) rfl (Nat.le_of_ble_eq_true rfl) dX10_goesOn_48 w_1269 ?_
  refine ev_iload_n 2 dX10_goesOn_51 rfl ?_
  have hb52 := h.1
  replace h := h.2
  refine ev_iald lay_275 (Nat.le_of_ble_eq_true rfl) hb52 dX10_goesOn_52 ?_
  refine ev_aload_n 0 dX10_goesOn_53 rfl ?_
  refine ev_getR (r := 275) G10 lay_245 (k := 43) rfl (Nat.le_of_ble_eq_true rfl) dX10_goesOn_54 w_1269 ?_
  refine ev_iload_n 1 dX10_goesOn_57 rfl ?_
  have hb58 := h.1
  replace h := h.2
  refine ev_iald lay_275 (Nat.le_of_ble_eq_true rfl) hb58 dX10_goesOn_58 ?_
  refine ev_icmp_ge 68 dX10_goesOn_59 (by decide) (fun c9 => ?_) (fun c9 => ?_)
  · replace h := h.1 c9
    refine ev_aload_n 0 dX10_goesOn_68 rfl ?_
    refine ev_getR (r := 275) G10 lay_245 (k := 43) rfl (Nat.le_of_ble_eq_true rfl) dX10_goesOn_69 w_1269 ?_
    refine ev_iload_n 1 dX10_goesOn_72 rfl ?_
    have hb73 := h.1
    replace h := h.2
    refine ev_iald lay_275 (Nat.le_of_ble_eq_true rfl) hb73 dX10_goesOn_73 ?_
    refine ev_istore_n (lv' := [(3, .int (σ.1 275 (x1).toNatClampNeg)), (0, .ref 245), (1, .int x1), (2, .int x2)]) dX10_goesOn_74 (Nat.le_of_ble_eq_true rfl) rfl ?_
    refine ev_aload_n 1 dX10_goesOn_75 rfl ?_
    refine ev_getR (r := 275) G10 lay_245 (k := 43) rfl (Nat.le_of_ble_eq_true rfl) dX10_goesOn_76 w_1269 ?_
    refine ev_iload_n 2 dX10_goesOn_79 rfl ?_
    refine ev_aload_n 1 dX10_goesOn_80 rfl ?_
    refine ev_getR (r := 275) G10 lay_245 (k := 43) rfl (Nat.le_of_ble_eq_true rfl) dX10_goesOn_81 w_1269 ?_
    refine ev_iload_n 3 dX10_goesOn_84 rfl ?_
    have hb85 := h.1
    replace h := h.2
    refine ev_iald lay_275 (Nat.le_of_ble_eq_true rfl) hb85 dX10_goesOn_85 ?_
    have hb86 := h.1
    replace h := h.2
    refine ev_iast lay_275 (Nat.le_of_ble_eq_true rfl) hb86 dX10_goesOn_86 ?_
    refine ev_aload_n 1 dX10_goesOn_87 rfl ?_
    refine ev_getR (r := 275) G10 lay_245 (k := 43) rfl (Nat.le_of_ble_eq_true rfl) dX10_goesOn_88 w_1269 ?_
    refine ev_iload_n 3 dX10_goesOn_91 rfl ?_
    refine ev_iload_n 0 dX10_goesOn_92 rfl ?_
    have hb93 := h.1
    replace h := h.2
    refine ev_iast lay_275 (Nat.le_of_ble_eq_true rfl) hb93 dX10_goesOn_93 ?_
    refine ev_iload_n 2 dX10_goesOn_94 rfl ?_
    refine ev_iconst 1 dX10_goesOn_95 (by decide) ?_
    refine ev_iadd dX10_goesOn_96 ?_
    refine ev_istore (lv' := [(4, .int (x1 + 1)), (3, .int (σ.1 275 (x1).toNatClampNeg)), (0, .ref 245), (1, .int x1), (2, .int x2)]) dX10_goesOn_97 (Nat.le_of_ble_eq_true rfl) rfl ?_
    refine ev_aload_n 2 dX10_goesOn_99 rfl ?_
    refine ev_get G10 lay_245 (k := 33) rfl (Nat.le_of_ble_eq_true rfl) dX10_goesOn_100 w_1259 ?_
    refine ev_iconst 1 dX10_goesOn_103 (by decide) ?_
    refine ev_isub dX10_goesOn_104 ?_
    refine ev_istore (lv' := [(5, .int (((u1 (u1 σ 275 (x1).toNatClampNeg (σ.1 275 (x2).toNatClampNeg)) 275 (x2).toNatClampNeg (σ.1 275 (x1).toNatClampNeg)).1 245 33) - 1)), (4, .int (x1 + 1)), (3, .int (σ.1 275 (x1).toNatClampNeg)), (0, .ref 245), (1, .int x1), (2, .int x2)]) dX10_goesOn_105 (Nat.le_of_ble_eq_true rfl) rfl ?_
    refine ev_sub [3, 1, 0] rfl ?_
    exact h
  · replace h := h.2 c9
    refine ev_iinc (lv' := [(2, .int (x2 + (-1))), (0, .ref 245), (1, .int x1)]) (x2 + (-1)) 2 dX10_goesOn_62 rfl rfl (Nat.le_of_ble_eq_true rfl) rfl ?_
    refine ev_goto 47 dX10_goesOn_65 (by decide) ?_
    refine ev_sub [1, 2, 0] rfl ?_
    exact h
theorem BX10_goesOn_107 {N : Nat} {σ : Sg} {Q : Option Value → Sg → Prop} {x4 : Int32} {x5 : Int32} (h : (x5 ≤ x4 → Q (some (.int 1)) σ) ∧ (¬ x5 ≤ x4 → vp_in x4 6 ∧ (vp_in x5 6 ∧ (vp_in x4 6 ∧ (vp_in x5 6 ∧ (KX10_goesOn_107 N (u1 (u1 σ 275 (x4).toNatClampNeg (σ.1 275 (x5).toNatClampNeg)) 275 (x5).toNatClampNeg (σ.1 275 (x4).toNatClampNeg)) Q (x4 + 1) (x5 + (-1)))))))) : KX10_goesOn_107 N σ Q x4 x5 := by
  refine ev_iload 1 dX10_goesOn_107 rfl ?_
  refine ev_iload 2 dX10_goesOn_109 rfl ?_
  refine ev_icmp_ge 153 dX10_goesOn_111 (by decide) (fun c9 => ?_) (fun c9 => ?_)
  · replace h := h.1 c9
    refine ev_iconst 1 dX10_goesOn_153 (by decide) ?_
    exact ev_zret (ty := .boolean) rfl (by rfl) dX10_goesOn_154 h
  · replace h := h.2 c9
    refine ev_aload_n 0 dX10_goesOn_114 rfl ?_
    refine ev_getR (r := 275) G10 lay_245 (k := 43) rfl (Nat.le_of_ble_eq_true rfl) dX10_goesOn_115 w_1269 ?_
    refine ev_iload 1 dX10_goesOn_118 rfl ?_
    have hb120 := h.1
    replace h := h.2
    refine ev_iald lay_275 (Nat.le_of_ble_eq_true rfl) hb120 dX10_goesOn_120 ?_
    refine ev_istore_n (lv' := [(3, .int (σ.1 275 (x4).toNatClampNeg)), (0, .ref 245), (4, .int x4), (5, .int x5)]) dX10_goesOn_121 (Nat.le_of_ble_eq_true rfl) rfl ?_
    refine ev_aload_n 1 dX10_goesOn_122 rfl ?_
    refine ev_getR (r := 275) G10 lay_245 (k := 43) rfl (Nat.le_of_ble_eq_true rfl) dX10_goesOn_123 w_1269 ?_
    refine ev_iload 2 dX10_goesOn_126 rfl ?_
    refine ev_aload_n 1 dX10_goesOn_128 rfl ?_
    refine ev_getR (r := 275) G10 lay_245 (k := 43) rfl (Nat.le_of_ble_eq_true rfl) dX10_goesOn_129 w_1269 ?_
    refine ev_iload 3 dX10_goesOn_132 rfl ?_
    have hb134 := h.1
    replace h := h.2
    refine ev_iald lay_275 (Nat.le_of_ble_eq_true rfl) hb134 dX10_goesOn_134 ?_
    have hb135 := h.1
    replace h := h.2
    refine ev_iast lay_275 (Nat.le_of_ble_eq_true rfl) hb135 dX10_goesOn_135 ?_
    refine ev_aload_n 1 dX10_goesOn_136 rfl ?_
    refine ev_getR (r := 275) G10 lay_245 (k := 43) rfl (Nat.le_of_ble_eq_true rfl) dX10_goesOn_137 w_1269 ?_
    refine ev_iload 3 dX10_goesOn_140 rfl ?_
    refine ev_iload_n 0 dX10_goesOn_142 rfl ?_
    have hb143 := h.1
    replace h := h.2
    refine ev_iast lay_275 (Nat.le_of_ble_eq_true rfl) hb143 dX10_goesOn_143 ?_
    refine ev_iinc (lv' := [(4, .int (x4 + 1)), (3, .int (σ.1 275 (x4).toNatClampNeg)), (0, .ref 245), (5, .int x5)]) (x4 + 1) 2 dX10_goesOn_144 rfl rfl (Nat.le_of_ble_eq_true rfl) rfl ?_
    refine ev_iinc (lv' := [(5, .int (x5 + (-1))), (4, .int (x4 + 1)), (3, .int (σ.1 275 (x4).toNatClampNeg)), (0, .ref 245)]) (x5 + (-1)) 3 dX10_goesOn_147 rfl rfl (Nat.le_of_ble_eq_true rfl) rfl ?_
    refine ev_goto 107 dX10_goesOn_150 (by decide) ?_
    refine ev_sub [3, 1, 0] rfl ?_
    exact h
abbrev KX10_judge_65 (N : Nat) (σ : Sg) (Q : Option Value → Sg → Prop) (x3 : Int32) (x4 : Int32) (x5 : Int32) (x6 : Int32) (x7 : Int32) : Prop := Ev (N + 5) mX10_judge 65 [(0, .ref 245), (3, .int x3), (4, .int x4), (5, .int x5), (6, .int x6), (7, .int x7)] [] σ Q
abbrev KX10_judge_90 (N : Nat) (σ : Sg) (Q : Option Value → Sg → Prop) (x3 : Int32) (x4 : Int32) (x5 : Int32) (x6 : Int32) (x7 : Int32) : Prop := Ev (N + 5) mX10_judge 90 [(0, .ref 245), (3, .int x3), (4, .int x4), (5, .int x5), (6, .int x6), (7, .int x7)] [] σ Q
abbrev KX10_judge_101 (N : Nat) (σ : Sg) (Q : Option Value → Sg → Prop) (x3 : Int32) (x4 : Int32) (x5 : Int32) (x6 : Int32) (x8 : Int32) (x9 : Int32) : Prop := Ev (N + 5) mX10_judge 101 [(0, .ref 245), (3, .int x3), (4, .int x4), (5, .int x5), (6, .int x6), (8, .int x8), (9, .int x9)] [] σ Q
theorem EX10_judge {N : Nat} {σ : Sg} {Q : Option Value → Sg → Prop} {x1 : Int32} {x2 : Int32} {x3 : Int32} (h : EvM (N + 4) mX10_areTexts [.ref 245, .int x1] σ (fun r9 σ1 => ∃ v1, r9 = some (.int v1) ∧ ((v1 = 0 → Q (some (.int (-1))) σ1) ∧ (¬ v1 = 0 → EvM (N + 4) mX10_areTexts [.ref 245, .int x2] σ1 (fun r9 σ2 => ∃ v2, r9 = some (.int v2) ∧ ((v2 = 0 → Q (some (.int (-1))) σ2) ∧ (¬ v2 = 0 → ((x1 &&& x2) = 0 → ((0 ≤ ((x3).toInt64).toInt ∧ ((x3).toInt64).toInt ≤ 2) → EvM (N + 4) mX10_findBest [.ref 245, .int x1] σ2 (fun r9 σ3 => r9 = none ∧ (EvM (N + 4) mX10_findReadable [.ref 245, .int x2] σ3 (fun r9 σ4 => r9 = none ∧ (EvM (N + 4) mX10_readBy [.ref 245, .int (σ4.1 245 40)] σ4 (fun r9 σ5 => ∃ v5, r9 = some (.int v5) ∧ (KX10_judge_65 N σ5 Q x3 v5 0 0 0))))))) ∧ (¬ (0 ≤ ((x3).toInt64).toInt ∧ ((x3).toInt64).toInt ≤ 2) → Q (some (.int (-1))) σ2)) ∧ (¬ (x1 &&& x2) = 0 → Q (some (.int (-1))) σ2)))))))) : EvM (N + 5) mX10_judge [.ref 245, .int x1, .int x2, .int x3] σ Q := by
  refine ev_entry rfl (Nat.le_of_ble_eq_true rfl) (lv := [(0, .ref 245), (1, .int x1), (2, .int x2), (3, .int x3)]) rfl ?_
  refine ev_aload_n 0 dX10_judge_0 rfl ?_
  refine ev_iload_n 1 dX10_judge_1 rfl ?_
  refine ev_callV (M' := mX10_areTexts) [.int x1] vX10_areTexts G10 lay_245 dX10_judge_2 w_1633 rfl rfl (Nat.le_of_ble_eq_true rfl) h ?_
  rintro r9 σ1 ⟨v1, rfl, h⟩
  refine ev_if_eq 34 dX10_judge_5 (by decide) (fun c9 => ?_) (fun c9 => ?_)
  · replace h := h.1 c9
    refine ev_iconst (-1) dX10_judge_34 (by decide) ?_
    exact ev_iret rfl dX10_judge_35 h
  · replace h := h.2 c9
    refine ev_aload_n 0 dX10_judge_8 rfl ?_
    refine ev_iload_n 2 dX10_judge_9 rfl ?_
    refine ev_callV (M' := mX10_areTexts) [.int x2] vX10_areTexts G10 lay_245 dX10_judge_10 w_1633 rfl rfl (Nat.le_of_ble_eq_true rfl) h ?_
    rintro r9 σ2 ⟨v2, rfl, h⟩
    refine ev_if_eq 34 dX10_judge_13 (by decide) (fun c9 => ?_) (fun c9 => ?_)
    · replace h := h.1 c9
      refine ev_iconst (-1) dX10_judge_34 (by decide) ?_
      exact ev_iret rfl dX10_judge_35 h
    · replace h := h.2 c9
      refine ev_iload_n 1 dX10_judge_16 rfl ?_
      refine ev_iload_n 2 dX10_judge_17 rfl ?_
      refine ev_iand dX10_judge_18 ?_
      refine ev_if_ne 34 dX10_judge_19 (by decide) (fun c9 => ?_) (fun c9 => ?_)
      · replace h := h.2 c9
        refine ev_iconst (-1) dX10_judge_34 (by decide) ?_
        exact ev_iret rfl dX10_judge_35 h
      · replace h := h.1 c9
        refine ev_iload_n 3 dX10_judge_22 rfl ?_
        refine ev_i2l dX10_judge_23 ?_
        refine ev_lconst 0 dX10_judge_24 (by decide) ?_
        refine ev_ldc2 2 dX10_judge_25 w_1504 ?_
        refine ev_callS (M' := mX10_in) [.long ((x3).toInt64), .long 0, .long 2] vX10_in dX10_judge_28 w_1421 rfl rfl (Nat.le_of_ble_eq_true rfl) (C10_in (P := 0 ≤ ((x3).toInt64).toInt ∧ ((x3).toInt64).toInt ≤ 2) (by (try simp only [i_l]); exact Iff.rfl) (Q := fun r9 s9 => σ2 = s9 ∧ ((r9 = some (.int 1) ∧ (0 ≤ ((x3).toInt64).toInt ∧ ((x3).toInt64).toInt ≤ 2)) ∨ (r9 = some (.int 0) ∧ ¬ (0 ≤ ((x3).toInt64).toInt ∧ ((x3).toInt64).toInt ≤ 2)))) ⟨fun c9 => ⟨rfl, Or.inl ⟨rfl, c9⟩⟩, fun c9 => ⟨rfl, Or.inr ⟨rfl, c9⟩⟩⟩) ?_
        rintro r9 s9 ⟨rfl, ⟨rfl, c9⟩ | ⟨rfl, c9⟩⟩
        · replace h := h.1 c9
          refine ev_if_ne 36 dX10_judge_31 (by decide) (fun c9 => ?_) (fun c9 => ?_)
          · refine ev_aload_n 0 dX10_judge_36 rfl ?_
            refine ev_iload_n 1 dX10_judge_37 rfl ?_
            refine ev_callV (M' := mX10_findBest) [.int x1] vX10_findBest G10 lay_245 dX10_judge_38 w_1653 rfl rfl (Nat.le_of_ble_eq_true rfl) h ?_
            rintro r9 σ3 ⟨rfl, h⟩
            refine ev_aload_n 0 dX10_judge_41 rfl ?_
            refine ev_iload_n 2 dX10_judge_42 rfl ?_
            refine ev_callV (M' := mX10_findReadable) [.int x2] vX10_findReadable G10 lay_245 dX10_judge_43 w_1641 rfl rfl (Nat.le_of_ble_eq_true rfl) h ?_
            rintro r9 σ4 ⟨rfl, h⟩
            refine ev_aload_n 0 dX10_judge_46 rfl ?_
            refine ev_aload_n 0 dX10_judge_47 rfl ?_
            refine ev_get G10 lay_245 (k := 40) rfl (Nat.le_of_ble_eq_true rfl) dX10_judge_48 w_1266 ?_
            refine ev_callV (M' := mX10_readBy) [.int (σ4.1 245 40)] vX10_readBy G10 lay_245 dX10_judge_51 w_1645 rfl rfl (Nat.le_of_ble_eq_true rfl) h ?_
            rintro r9 σ5 ⟨v5, rfl, h⟩
            refine ev_istore (lv' := [(4, .int v5), (0, .ref 245), (1, .int x1), (2, .int x2), (3, .int x3)]) dX10_judge_54 (Nat.le_of_ble_eq_true rfl) rfl ?_
            refine ev_iconst 0 dX10_judge_56 (by decide) ?_
            refine ev_istore (lv' := [(5, .int 0), (4, .int v5), (0, .ref 245), (1, .int x1), (2, .int x2), (3, .int x3)]) dX10_judge_57 (Nat.le_of_ble_eq_true rfl) rfl ?_
            refine ev_iconst 0 dX10_judge_59 (by decide) ?_
            refine ev_istore (lv' := [(6, .int 0), (5, .int 0), (4, .int v5), (0, .ref 245), (1, .int x1), (2, .int x2), (3, .int x3)]) dX10_judge_60 (Nat.le_of_ble_eq_true rfl) rfl ?_
            refine ev_iconst 0 dX10_judge_62 (by decide) ?_
            refine ev_istore (lv' := [(7, .int 0), (6, .int 0), (5, .int 0), (4, .int v5), (0, .ref 245), (1, .int x1), (2, .int x2), (3, .int x3)]) dX10_judge_63 (Nat.le_of_ble_eq_true rfl) rfl ?_
            refine ev_sub [4, 7, 3, 2, 1, 0] rfl ?_
            exact h
          · exact absurd c9 (by decide)
        · replace h := h.2 c9
          refine ev_if_ne 36 dX10_judge_31 (by decide) (fun c9 => ?_) (fun c9 => ?_)
          · exact absurd c9 (by decide)
          · refine ev_iconst (-1) dX10_judge_34 (by decide) ?_
            exact ev_iret rfl dX10_judge_35 h
theorem BX10_judge_65 {N : Nat} {σ : Sg} {Q : Option Value → Sg → Prop} {x3 : Int32} {x4 : Int32} {x5 : Int32} {x6 : Int32} {x7 : Int32} (h : (6 ≤ x7 → KX10_judge_90 N σ Q x3 x4 x5 x6 1) ∧ (¬ 6 ≤ x7 → vp_in x7 6 ∧ (KX10_judge_65 N (u1 σ 275 (x7).toNatClampNeg x7) Q x3 x4 x5 x6 (x7 + 1)))) : KX10_judge_65 N σ Q x3 x4 x5 x6 x7 := by
  refine ev_iload 5 dX10_judge_65 rfl ?_
  refine ev_bipush 6 dX10_judge_67 (by decide) ?_
  refine ev_icmp_ge 87 dX10_judge_69 (by decide) (fun c9 => ?_) (fun c9 => ?_)
  · replace h := h.1 c9
    refine ev_iconst 1 dX10_judge_87 (by decide) ?_
    refine ev_istore (lv' := [(7, .int 1), (0, .ref 245), (3, .int x3), (4, .int x4), (5, .int x5), (6, .int x6)]) dX10_judge_88 (Nat.le_of_ble_eq_true rfl) rfl ?_
    refine ev_sub [1, 2, 3, 4, 5, 0] rfl ?_
    exact h
  · replace h := h.2 c9
    refine ev_aload_n 0 dX10_judge_72 rfl ?_
    refine ev_getR (r := 275) G10 lay_245 (k := 43) rfl (Nat.le_of_ble_eq_true rfl) dX10_judge_73 w_1269 ?_
    refine ev_iload 5 dX10_judge_76 rfl ?_
    refine ev_iload 5 dX10_judge_78 rfl ?_
    have hb80 := h.1
    replace h := h.2
    refine ev_iast lay_275 (Nat.le_of_ble_eq_true rfl) hb80 dX10_judge_80 ?_
    refine ev_iinc (lv' := [(7, .int (x7 + 1)), (0, .ref 245), (3, .int x3), (4, .int x4), (5, .int x5), (6, .int x6)]) (x7 + 1) 5 dX10_judge_81 rfl rfl (Nat.le_of_ble_eq_true rfl) rfl ?_
    refine ev_goto 65 dX10_judge_84 (by decide) ?_
    refine ev_sub [1, 2, 3, 4, 5, 0] rfl ?_
    exact h
theorem BX10_judge_90 {N : Nat} {σ : Sg} {Q : Option Value → Sg → Prop} {x3 : Int32} {x4 : Int32} {x5 : Int32} {x6 : Int32} {x7 : Int32} (h : (x7 = 0 → (x3 = 0 → Q (some (.int x4)) σ) ∧ (¬ x3 = 0 → (x3 = 1 → Q (some (.int x5)) σ) ∧ (¬ x3 = 1 → Q (some (.int x6)) σ))) ∧ (¬ x7 = 0 → KX10_judge_101 N σ Q x3 x4 x5 x6 0 0)) : KX10_judge_90 N σ Q x3 x4 x5 x6 x7 := by
  refine ev_iload 5 dX10_judge_90 rfl ?_
  refine ev_if_eq 175 dX10_judge_92 (by decide) (fun c9 => ?_) (fun c9 => ?_)
  · replace h := h.1 c9
    refine ev_iload_n 1 dX10_judge_175 rfl ?_
    refine ev_if_ne 184 dX10_judge_176 (by decide) (fun c9 => ?_) (fun c9 => ?_)
    · replace h := h.2 c9
      refine ev_iload_n 1 dX10_judge_184 rfl ?_
      refine ev_iconst 1 dX10_judge_185 (by decide) ?_
      refine ev_icmp_ne 194 dX10_judge_186 (by decide) (fun c9 => ?_) (fun c9 => ?_)
      · replace h := h.2 c9
        refine ev_iload 4 dX10_judge_194 rfl ?_
        exact ev_iret rfl dX10_judge_196 h
      · replace h := h.1 c9
        refine ev_iload 3 dX10_judge_189 rfl ?_
        refine ev_goto 196 dX10_judge_191 (by decide) ?_
        exact ev_iret rfl dX10_judge_196 h
    · replace h := h.1 c9
      refine ev_iload 2 dX10_judge_179 rfl ?_
      refine ev_goto 196 dX10_judge_181 (by decide) ?_
      exact ev_iret rfl dX10_judge_196 h
  · replace h := h.2 c9
    refine ev_iconst 0 dX10_judge_95 (by decide) ?_
    refine ev_istore (lv' := [(8, .int 0), (0, .ref 245), (3, .int x3), (4, .int x4), (5, .int x5), (6, .int x6), (7, .int x7)]) dX10_judge_96 (Nat.le_of_ble_eq_true rfl) rfl ?_
    refine ev_iconst 0 dX10_judge_98 (by decide) ?_
    refine ev_istore (lv' := [(9, .int 0), (8, .int 0), (0, .ref 245), (3, .int x3), (4, .int x4), (5, .int x5), (6, .int x6), (7, .int x7)]) dX10_judge_99 (Nat.le_of_ble_eq_true rfl) rfl ?_
    refine ev_sub [2, 3, 4, 5, 6, 1, 0] rfl ?_
    exact h
theorem BX10_judge_101 {N : Nat} {σ : Sg} {Q : Option Value → Sg → Prop} {x3 : Int32} {x4 : Int32} {x5 : Int32} {x6 : Int32} {x8 : Int32} {x9 : Int32} (h : ((σ.1 245 33) ≤ x9 → EvM (N + 4) mX10_readBy [.ref 245, .int x8] σ (fun r9 σ6 => ∃ v6, r9 = some (.int v6) ∧ ((v6 < x4 → EvM (N + 4) mX10_goesOn [.ref 245] σ6 (fun r9 σ7 => ∃ v7, r9 = some (.int v7) ∧ (KX10_judge_90 N σ7 Q x3 x4 (x5 + 0) (x6 + 1) v7))) ∧ (¬ v6 < x4 → EvM (N + 4) mX10_goesOn [.ref 245] σ6 (fun r9 σ8 => ∃ v8, r9 = some (.int v8) ∧ (KX10_judge_90 N σ8 Q x3 x4 (x5 + 1) (x6 + 1) v8)))))) ∧ (¬ (σ.1 245 33) ≤ x9 → vp_in x9 6 ∧ (KX10_judge_101 N σ Q x3 x4 x5 x6 (x8 ||| ((((σ.1 245 40) >>> ((2 * (σ.1 275 (x9).toNatClampNeg)) &&& 31)) &&& 3) <<< ((2 * x9) &&& 31))) (x9 + 1)))) : KX10_judge_101 N σ Q x3 x4 x5 x6 x8 x9 := by
  refine ev_iload 6 dX10_judge_101 rfl ?_
  refine ev_aload_n 0 dX10_judge_103 rfl ?_
  refine ev_get G10 lay_245 (k := 33) rfl (Nat.le_of_ble_eq_true rfl) dX10_judge_104 w_1259 ?_
  refine ev_icmp_ge 142 dX10_judge_107 (by decide) (fun c9 => ?_) (fun c9 => ?_)
  · replace h := h.1 c9
    refine ev_iload 3 dX10_judge_142 rfl ?_
    refine ev_aload_n 0 dX10_judge_144 rfl ?_
    refine ev_iload 5 dX10_judge_145 rfl ?_
    refine ev_callV (M' := mX10_readBy) [.int x8] vX10_readBy G10 lay_245 dX10_judge_147 w_1645 rfl rfl (Nat.le_of_ble_eq_true rfl) h ?_
    rintro r9 σ6 ⟨v6, rfl, h⟩
    refine ev_iload 2 dX10_judge_150 rfl ?_
    refine ev_icmp_lt 159 dX10_judge_152 (by decide) (fun c9 => ?_) (fun c9 => ?_)
    · replace h := h.1 c9
      refine ev_iconst 0 dX10_judge_159 (by decide) ?_
      refine ev_iadd dX10_judge_160 ?_
      refine ev_istore (lv' := [(5, .int (x5 + 0)), (0, .ref 245), (3, .int x3), (4, .int x4), (6, .int x6), (8, .int x8), (9, .int x9)]) dX10_judge_161 (Nat.le_of_ble_eq_true rfl) rfl ?_
      refine ev_iinc (lv' := [(6, .int (x6 + 1)), (5, .int (x5 + 0)), (0, .ref 245), (3, .int x3), (4, .int x4), (8, .int x8), (9, .int x9)]) (x6 + 1) 4 dX10_judge_163 rfl rfl (Nat.le_of_ble_eq_true rfl) rfl ?_
      refine ev_aload_n 2 dX10_judge_166 rfl ?_
      refine ev_callV (M' := mX10_goesOn) [] vX10_goesOn G10 lay_245 dX10_judge_167 w_1665 rfl rfl (Nat.le_of_ble_eq_true rfl) h ?_
      rintro r9 σ7 ⟨v7, rfl, h⟩
      refine ev_istore (lv' := [(7, .int v7), (6, .int (x6 + 1)), (5, .int (x5 + 0)), (0, .ref 245), (3, .int x3), (4, .int x4), (8, .int x8), (9, .int x9)]) dX10_judge_170 (Nat.le_of_ble_eq_true rfl) rfl ?_
      refine ev_goto 90 dX10_judge_172 (by decide) ?_
      refine ev_sub [3, 4, 5, 2, 1, 0] rfl ?_
      exact h
    · replace h := h.2 c9
      refine ev_iconst 1 dX10_judge_155 (by decide) ?_
      refine ev_goto 160 dX10_judge_156 (by decide) ?_
      refine ev_iadd dX10_judge_160 ?_
      refine ev_istore (lv' := [(5, .int (x5 + 1)), (0, .ref 245), (3, .int x3), (4, .int x4), (6, .int x6), (8, .int x8), (9, .int x9)]) dX10_judge_161 (Nat.le_of_ble_eq_true rfl) rfl ?_
      refine ev_iinc (lv' := [(6, .int (x6 + 1)), (5, .int (x5 + 1)), (0, .ref 245), (3, .int x3), (4, .int x4), (8, .int x8), (9, .int x9)]) (x6 + 1) 4 dX10_judge_163 rfl rfl (Nat.le_of_ble_eq_true rfl) rfl ?_
      refine ev_aload_n 2 dX10_judge_166 rfl ?_
      refine ev_callV (M' := mX10_goesOn) [] vX10_goesOn G10 lay_245 dX10_judge_167 w_1665 rfl rfl (Nat.le_of_ble_eq_true rfl) h ?_
      rintro r9 σ8 ⟨v8, rfl, h⟩
      refine ev_istore (lv' := [(7, .int v8), (6, .int (x6 + 1)), (5, .int (x5 + 1)), (0, .ref 245), (3, .int x3), (4, .int x4), (8, .int x8), (9, .int x9)]) dX10_judge_170 (Nat.le_of_ble_eq_true rfl) rfl ?_
      refine ev_goto 90 dX10_judge_172 (by decide) ?_
      refine ev_sub [3, 4, 5, 2, 1, 0] rfl ?_
      exact h
  · replace h := h.2 c9
    refine ev_iload 5 dX10_judge_110 rfl ?_
    refine ev_aload_n 0 dX10_judge_112 rfl ?_
    refine ev_get G10 lay_245 (k := 40) rfl (Nat.le_of_ble_eq_true rfl) dX10_judge_113 w_1266 ?_
    refine ev_iconst 2 dX10_judge_116 (by decide) ?_
    refine ev_aload_n 0 dX10_judge_117 rfl ?_
    refine ev_getR (r := 275) G10 lay_245 (k := 43) rfl (Nat.le_of_ble_eq_true rfl) dX10_judge_118 w_1269 ?_
    refine ev_iload 6 dX10_judge_121 rfl ?_
    have hb123 := h.1
    replace h := h.2
    refine ev_iald lay_275 (Nat.le_of_ble_eq_true rfl) hb123 dX10_judge_123 ?_
    refine ev_imul dX10_judge_124 ?_
    refine ev_ishr dX10_judge_125 ?_
    refine ev_iconst 3 dX10_judge_126 (by decide) ?_
    refine ev_iand dX10_judge_127 ?_
    refine ev_iconst 2 dX10_judge_128 (by decide) ?_
    refine ev_iload 6 dX10_judge_129 rfl ?_
    refine ev_imul dX10_judge_131 ?_
    refine ev_ishl dX10_judge_132 ?_
    refine ev_ior dX10_judge_133 ?_
    refine ev_istore (lv' := [(8, .int (x8 ||| ((((σ.1 245 40) >>> ((2 * (σ.1 275 (x9).toNatClampNeg)) &&& 31)) &&& 3) <<< ((2 * x9) &&& 31)))), (0, .ref 245), (3, .int x3), (4, .int x4), (5, .int x5), (6, .int x6), (9, .int x9)]) dX10_judge_134 (Nat.le_of_ble_eq_true rfl) rfl ?_
    refine ev_iinc (lv' := [(9, .int (x9 + 1)), (8, .int (x8 ||| ((((σ.1 245 40) >>> ((2 * (σ.1 275 (x9).toNatClampNeg)) &&& 31)) &&& 3) <<< ((2 * x9) &&& 31)))), (0, .ref 245), (3, .int x3), (4, .int x4), (5, .int x5), (6, .int x6)]) (x9 + 1) 6 dX10_judge_136 rfl rfl (Nat.le_of_ble_eq_true rfl) rfl ?_
    refine ev_goto 101 dX10_judge_139 (by decide) ?_
    refine ev_sub [2, 3, 4, 5, 6, 1, 0] rfl ?_
    exact h
abbrev KX10_feed_19 (N : Nat) (σ : Sg) (Q : Option Value → Sg → Prop) (y1 : Int64) (x3 : Int32) : Prop := Ev N mX10_feed 19 [(0, .ref 245), (1, .long y1), (3, .int x3)] [] σ Q
theorem EX10_feed {N : Nat} {σ : Sg} {Q : Option Value → Sg → Prop} {y1 : Int64} (h : (((σ.1 245 45) + 8) ≤ 160 → KX10_feed_19 N σ Q y1 56) ∧ (¬ ((σ.1 245 45) + 8) ≤ 160 → Q (some (.int (-3))) σ)) : EvM N mX10_feed [.ref 245, .long y1] σ Q := by
  refine ev_entry rfl (Nat.le_of_ble_eq_true rfl) (lv := [(0, .ref 245), (1, .long y1)]) rfl ?_
  refine ev_aload_n 0 dX10_feed_0 rfl ?_
  refine ev_get G10 lay_245 (k := 45) rfl (Nat.le_of_ble_eq_true rfl) dX10_feed_1 w_1271 ?_
  refine ev_bipush 8 dX10_feed_4 (by decide) ?_
  refine ev_iadd dX10_feed_6 ?_
  refine ev_sipush 160 dX10_feed_7 (by decide) ?_
  refine ev_icmp_le 16 dX10_feed_10 (by decide) (fun c9 => ?_) (fun c9 => ?_)
  · replace h := h.1 c9
    refine ev_bipush 56 dX10_feed_16 (by decide) ?_
    refine ev_istore_n (lv' := [(3, .int 56), (0, .ref 245), (1, .long y1)]) dX10_feed_18 (Nat.le_of_ble_eq_true rfl) rfl ?_
    refine ev_sub [1, 2, 0] rfl ?_
    exact h
  · replace h := h.2 c9
    refine ev_bipush (-3) dX10_feed_13 (by decide) ?_
    exact ev_iret rfl dX10_feed_15 h
theorem BX10_feed_19 {N : Nat} {σ : Sg} {Q : Option Value → Sg → Prop} {y1 : Int64} {x3 : Int32} (h : (x3 < 0 → Q (some (.int (σ.1 245 45))) σ) ∧ (¬ x3 < 0 → vp_in (σ.1 245 45) 160 ∧ (KX10_feed_19 N (u1 (u1 σ 276 (σ.1 245 45).toNatClampNeg (((y1 >>> ((x3).toInt64 &&& 63)) &&& 255).toInt32)) 245 45 (((u1 σ 276 (σ.1 245 45).toNatClampNeg (((y1 >>> ((x3).toInt64 &&& 63)) &&& 255).toInt32)).1 245 45) + 1)) Q y1 (x3 + (-8))))) : KX10_feed_19 N σ Q y1 x3 := by
  refine ev_iload_n 2 dX10_feed_19 rfl ?_
  refine ev_if_lt 56 dX10_feed_20 (by decide) (fun c9 => ?_) (fun c9 => ?_)
  · replace h := h.1 c9
    refine ev_aload_n 0 dX10_feed_56 rfl ?_
    refine ev_get G10 lay_245 (k := 45) rfl (Nat.le_of_ble_eq_true rfl) dX10_feed_57 w_1271 ?_
    exact ev_iret rfl dX10_feed_60 h
  · replace h := h.2 c9
    refine ev_aload_n 0 dX10_feed_23 rfl ?_
    refine ev_getR (r := 276) G10 lay_245 (k := 44) rfl (Nat.le_of_ble_eq_true rfl) dX10_feed_24 w_1270 ?_
    refine ev_aload_n 0 dX10_feed_27 rfl ?_
    refine ev_get G10 lay_245 (k := 45) rfl (Nat.le_of_ble_eq_true rfl) dX10_feed_28 w_1271 ?_
    refine ev_lload_n 1 dX10_feed_31 rfl ?_
    refine ev_iload_n 2 dX10_feed_32 rfl ?_
    refine ev_lshr dX10_feed_33 ?_
    refine ev_ldc2 255 dX10_feed_34 w_1673 ?_
    refine ev_land dX10_feed_37 ?_
    refine ev_l2i dX10_feed_38 ?_
    have hb39 := h.1
    replace h := h.2
    refine ev_iast lay_276 (Nat.le_of_ble_eq_true rfl) hb39 dX10_feed_39 ?_
    refine ev_aload_n 0 dX10_feed_40 rfl ?_
    refine ev_dup dX10_feed_41 rfl ?_
    refine ev_get G10 lay_245 (k := 45) rfl (Nat.le_of_ble_eq_true rfl) dX10_feed_42 w_1271 ?_
    refine ev_iconst 1 dX10_feed_45 (by decide) ?_
    refine ev_iadd dX10_feed_46 ?_
    refine ev_put G10 lay_245 (k := 45) rfl (Nat.le_of_ble_eq_true rfl) rfl (by decide +kernel) dX10_feed_47 w_1271 ?_
    refine ev_iinc (lv' := [(3, .int (x3 + (-8))), (0, .ref 245), (1, .long y1)]) (x3 + (-8)) 2 dX10_feed_50 rfl rfl (Nat.le_of_ble_eq_true rfl) rfl ?_
    refine ev_goto 19 dX10_feed_53 (by decide) ?_
    refine ev_sub [1, 2, 0] rfl ?_
    exact h
theorem EX10_end {N : Nat} {σ : Sg} {Q : Option Value → Sg → Prop} {x1 : Int32} (h : ((0 ≤ ((x1).toInt64).toInt ∧ ((x1).toInt64).toInt ≤ ((σ.1 245 45).toInt64).toInt) → Q (some (.int (σ.1 245 45))) (u1 σ 245 45 x1)) ∧ (¬ (0 ≤ ((x1).toInt64).toInt ∧ ((x1).toInt64).toInt ≤ ((σ.1 245 45).toInt64).toInt) → Q (some (.int (-1))) σ)) : EvM (N + 1) mX10_end [.ref 245, .int x1] σ Q := by
  refine ev_entry rfl (Nat.le_of_ble_eq_true rfl) (lv := [(0, .ref 245), (1, .int x1)]) rfl ?_
  refine ev_iload_n 1 dX10_end_0 rfl ?_
  refine ev_i2l dX10_end_1 ?_
  refine ev_lconst 0 dX10_end_2 (by decide) ?_
  refine ev_aload_n 0 dX10_end_3 rfl ?_
  refine ev_get G10 lay_245 (k := 45) rfl (Nat.le_of_ble_eq_true rfl) dX10_end_4 w_1271 ?_
  refine ev_i2l dX10_end_7 ?_
  refine ev_callS (M' := mX10_in) [.long ((x1).toInt64), .long 0, .long ((σ.1 245 45).toInt64)] vX10_in dX10_end_8 w_1421 rfl rfl (Nat.le_of_ble_eq_true rfl) (C10_in (P := 0 ≤ ((x1).toInt64).toInt ∧ ((x1).toInt64).toInt ≤ ((σ.1 245 45).toInt64).toInt) (by (try simp only [i_l]); exact Iff.rfl) (Q := fun r9 s9 => σ = s9 ∧ ((r9 = some (.int 1) ∧ (0 ≤ ((x1).toInt64).toInt ∧ ((x1).toInt64).toInt ≤ ((σ.1 245 45).toInt64).toInt)) ∨ (r9 = some (.int 0) ∧ ¬ (0 ≤ ((x1).toInt64).toInt ∧ ((x1).toInt64).toInt ≤ ((σ.1 245 45).toInt64).toInt)))) ⟨fun c9 => ⟨rfl, Or.inl ⟨rfl, c9⟩⟩, fun c9 => ⟨rfl, Or.inr ⟨rfl, c9⟩⟩⟩) ?_
  rintro r9 s9 ⟨rfl, ⟨rfl, c9⟩ | ⟨rfl, c9⟩⟩
  · replace h := h.1 c9
    refine ev_if_ne 16 dX10_end_11 (by decide) (fun c9 => ?_) (fun c9 => ?_)
    · refine ev_aload_n 0 dX10_end_16 rfl ?_
      refine ev_get G10 lay_245 (k := 45) rfl (Nat.le_of_ble_eq_true rfl) dX10_end_17 w_1271 ?_
      refine ev_istore_n (lv' := [(2, .int (σ.1 245 45)), (0, .ref 245), (1, .int x1)]) dX10_end_20 (Nat.le_of_ble_eq_true rfl) rfl ?_
      refine ev_aload_n 1 dX10_end_21 rfl ?_
      refine ev_iload_n 2 dX10_end_22 rfl ?_
      refine ev_put G10 lay_245 (k := 45) rfl (Nat.le_of_ble_eq_true rfl) rfl (by decide +kernel) dX10_end_23 w_1271 ?_
      refine ev_iload_n 0 dX10_end_26 rfl ?_
      exact ev_iret rfl dX10_end_27 h
    · exact absurd c9 (by decide)
  · replace h := h.2 c9
    refine ev_if_ne 16 dX10_end_11 (by decide) (fun c9 => ?_) (fun c9 => ?_)
    · exact absurd c9 (by decide)
    · refine ev_iconst (-1) dX10_end_14 (by decide) ?_
      exact ev_iret rfl dX10_end_15 h
theorem EX10_wants {N : Nat} {σ : Sg} {Q : Option Value → Sg → Prop} {x1 : Int32} {x2 : Int32} (h : (x1 = 0 → ((σ.1 245 50) = 0 → Q none (u1 (u1 σ 245 50 x2) 245 51 ((u1 σ 245 50 x2).1 245 47))) ∧ (¬ (σ.1 245 50) = 0 → Q none σ)) ∧ (¬ x1 = 0 → Q none σ)) : EvM N mX10_wants [.ref 245, .int x1, .int x2] σ Q := by
  refine ev_entry rfl (Nat.le_of_ble_eq_true rfl) (lv := [(0, .ref 245), (1, .int x1), (2, .int x2)]) rfl ?_
  refine ev_iload_n 1 dX10_wants_0 rfl ?_
  refine ev_if_ne 24 dX10_wants_1 (by decide) (fun c9 => ?_) (fun c9 => ?_)
  · replace h := h.2 c9
    exact ev_vret rfl dX10_wants_24 h
  · replace h := h.1 c9
    refine ev_aload_n 0 dX10_wants_4 rfl ?_
    refine ev_get G10 lay_245 (k := 50) rfl (Nat.le_of_ble_eq_true rfl) dX10_wants_5 w_1276 ?_
    refine ev_if_ne 24 dX10_wants_8 (by decide) (fun c9 => ?_) (fun c9 => ?_)
    · replace h := h.2 c9
      exact ev_vret rfl dX10_wants_24 h
    · replace h := h.1 c9
      refine ev_aload_n 0 dX10_wants_11 rfl ?_
      refine ev_iload_n 2 dX10_wants_12 rfl ?_
      refine ev_put G10 lay_245 (k := 50) rfl (Nat.le_of_ble_eq_true rfl) rfl (by decide +kernel) dX10_wants_13 w_1276 ?_
      refine ev_aload_n 0 dX10_wants_16 rfl ?_
      refine ev_aload_n 0 dX10_wants_17 rfl ?_
      refine ev_get G10 lay_245 (k := 47) rfl (Nat.le_of_ble_eq_true rfl) dX10_wants_18 w_1273 ?_
      refine ev_put G10 lay_245 (k := 51) rfl (Nat.le_of_ble_eq_true rfl) rfl (by decide +kernel) dX10_wants_21 w_1277 ?_
      exact ev_vret rfl dX10_wants_24 h
theorem EX10_look {N : Nat} {σ : Sg} {Q : Option Value → Sg → Prop} {x1 : Int32} (h : ((σ.1 245 45) ≤ x1 → Q (some (.int (-1))) σ) ∧ (¬ (σ.1 245 45) ≤ x1 → vp_in x1 160 ∧ (Q (some (.int (σ.1 276 (x1).toNatClampNeg))) σ))) : EvM N mX10_look [.ref 245, .int x1] σ Q := by
  refine ev_entry rfl (Nat.le_of_ble_eq_true rfl) (lv := [(0, .ref 245), (1, .int x1)]) rfl ?_
  refine ev_iload_n 1 dX10_look_0 rfl ?_
  refine ev_aload_n 0 dX10_look_1 rfl ?_
  refine ev_get G10 lay_245 (k := 45) rfl (Nat.le_of_ble_eq_true rfl) dX10_look_2 w_1271 ?_
  refine ev_icmp_ge 17 dX10_look_5 (by decide) (fun c9 => ?_) (fun c9 => ?_)
  · replace h := h.1 c9
    refine ev_iconst (-1) dX10_look_17 (by decide) ?_
    exact ev_iret rfl dX10_look_18 h
  · replace h := h.2 c9
    refine ev_aload_n 0 dX10_look_8 rfl ?_
    refine ev_getR (r := 276) G10 lay_245 (k := 44) rfl (Nat.le_of_ble_eq_true rfl) dX10_look_9 w_1270 ?_
    refine ev_iload_n 1 dX10_look_12 rfl ?_
    have hb13 := h.1
    replace h := h.2
    refine ev_iald lay_276 (Nat.le_of_ble_eq_true rfl) hb13 dX10_look_13 ?_
    refine ev_goto 18 dX10_look_14 (by decide) ?_
    exact ev_iret rfl dX10_look_18 h
theorem EX10_is {N : Nat} {σ : Sg} {Q : Option Value → Sg → Prop} {x1 : Int32} {x2 : Int32} {x3 : Int32} {x4 : Int32} {x5 : Int32} {x6 : Int32} (h : (((σ.1 245 46) - (σ.1 245 47)) = x1 → EvM N mX10_look [.ref 245, .int (σ.1 245 47)] σ (fun r9 σ1 => ∃ v1, r9 = some (.int v1) ∧ ((v1 = x2 → EvM N mX10_look [.ref 245, .int ((σ1.1 245 47) + 1)] σ1 (fun r9 σ2 => ∃ v2, r9 = some (.int v2) ∧ ((v2 = x3 → (x1 < 3 → (x1 < 5 → Q (some (.int 1)) σ2) ∧ (¬ x1 < 5 → EvM N mX10_look [.ref 245, .int ((σ2.1 245 47) + 4)] σ2 (fun r9 σ3 => ∃ v3, r9 = some (.int v3) ∧ ((v3 = x6 → Q (some (.int 1)) σ3) ∧ (¬ v3 = x6 → Q (some (.int 0)) σ3))))) ∧ (¬ x1 < 3 → EvM N mX10_look [.ref 245, .int ((σ2.1 245 47) + 2)] σ2 (fun r9 σ4 => ∃ v4, r9 = some (.int v4) ∧ ((v4 = x4 → EvM N mX10_look [.ref 245, .int ((σ4.1 245 47) + 3)] σ4 (fun r9 σ5 => ∃ v5, r9 = some (.int v5) ∧ ((v5 = x5 → (x1 < 5 → Q (some (.int 1)) σ5) ∧ (¬ x1 < 5 → EvM N mX10_look [.ref 245, .int ((σ5.1 245 47) + 4)] σ5 (fun r9 σ6 => ∃ v6, r9 = some (.int v6) ∧ ((v6 = x6 → Q (some (.int 1)) σ6) ∧ (¬ v6 = x6 → Q (some (.int 0)) σ6))))) ∧ (¬ v5 = x5 → Q (some (.int 0)) σ5)))) ∧ (¬ v4 = x4 → Q (some (.int 0)) σ4))))) ∧ (¬ v2 = x3 → Q (some (.int 0)) σ2)))) ∧ (¬ v1 = x2 → Q (some (.int 0)) σ1)))) ∧ (¬ ((σ.1 245 46) - (σ.1 245 47)) = x1 → Q (some (.int 0)) σ)) : EvM (N + 1) mX10_is [.ref 245, .int x1, .int x2, .int x3, .int x4, .int x5, .int x6] σ Q := by
  refine ev_entry rfl (Nat.le_of_ble_eq_true rfl) (lv := [(0, .ref 245), (1, .int x1), (2, .int x2), (3, .int x3), (4, .int x4), (5, .int x5), (6, .int x6)]) rfl ?_
  refine ev_aload_n 0 dX10_is_0 rfl ?_
  refine ev_get G10 lay_245 (k := 46) rfl (Nat.le_of_ble_eq_true rfl) dX10_is_1 w_1272 ?_
  refine ev_aload_n 0 dX10_is_4 rfl ?_
  refine ev_get G10 lay_245 (k := 47) rfl (Nat.le_of_ble_eq_true rfl) dX10_is_5 w_1273 ?_
  refine ev_isub dX10_is_8 ?_
  refine ev_iload_n 1 dX10_is_9 rfl ?_
  refine ev_icmp_ne 98 dX10_is_10 (by decide) (fun c9 => ?_) (fun c9 => ?_)
  · replace h := h.2 c9
    refine ev_iconst 0 dX10_is_98 (by decide) ?_
    exact ev_zret (ty := .boolean) rfl (by rfl) dX10_is_99 h
  · replace h := h.1 c9
    refine ev_aload_n 0 dX10_is_13 rfl ?_
    refine ev_aload_n 0 dX10_is_14 rfl ?_
    refine ev_get G10 lay_245 (k := 47) rfl (Nat.le_of_ble_eq_true rfl) dX10_is_15 w_1273 ?_
    refine ev_callV (M' := mX10_look) [.int (σ.1 245 47)] vX10_look G10 lay_245 dX10_is_18 w_1686 rfl rfl (Nat.le_of_ble_eq_true rfl) h ?_
    rintro r9 σ1 ⟨v1, rfl, h⟩
    refine ev_iload_n 2 dX10_is_21 rfl ?_
    refine ev_icmp_ne 98 dX10_is_22 (by decide) (fun c9 => ?_) (fun c9 => ?_)
    · replace h := h.2 c9
      refine ev_iconst 0 dX10_is_98 (by decide) ?_
      exact ev_zret (ty := .boolean) rfl (by rfl) dX10_is_99 h
    · replace h := h.1 c9
      refine ev_aload_n 0 dX10_is_25 rfl ?_
      refine ev_aload_n 0 dX10_is_26 rfl ?_
      refine ev_get G10 lay_245 (k := 47) rfl (Nat.le_of_ble_eq_true rfl) dX10_is_27 w_1273 ?_
      refine ev_iconst 1 dX10_is_30 (by decide) ?_
      refine ev_iadd dX10_is_31 ?_
      refine ev_callV (M' := mX10_look) [.int ((σ1.1 245 47) + 1)] vX10_look G10 lay_245 dX10_is_32 w_1686 rfl rfl (Nat.le_of_ble_eq_true rfl) h ?_
      rintro r9 σ2 ⟨v2, rfl, h⟩
      refine ev_iload_n 3 dX10_is_35 rfl ?_
      refine ev_icmp_ne 98 dX10_is_36 (by decide) (fun c9 => ?_) (fun c9 => ?_)
      · replace h := h.2 c9
        refine ev_iconst 0 dX10_is_98 (by decide) ?_
        exact ev_zret (ty := .boolean) rfl (by rfl) dX10_is_99 h
      · replace h := h.1 c9
        refine ev_iload_n 1 dX10_is_39 rfl ?_
        refine ev_iconst 3 dX10_is_40 (by decide) ?_
        refine ev_icmp_lt 74 dX10_is_41 (by decide) (fun c9 => ?_) (fun c9 => ?_)
        · replace h := h.1 c9
          refine ev_iload_n 1 dX10_is_74 rfl ?_
          refine ev_iconst 5 dX10_is_75 (by decide) ?_
          refine ev_icmp_lt 94 dX10_is_76 (by decide) (fun c9 => ?_) (fun c9 => ?_)
          · replace h := h.1 c9
            refine ev_iconst 1 dX10_is_94 (by decide) ?_
            refine ev_goto 99 dX10_is_95 (by decide) ?_
            exact ev_zret (ty := .boolean) rfl (by rfl) dX10_is_99 h
          · replace h := h.2 c9
            refine ev_aload_n 0 dX10_is_79 rfl ?_
            refine ev_aload_n 0 dX10_is_80 rfl ?_
            refine ev_get G10 lay_245 (k := 47) rfl (Nat.le_of_ble_eq_true rfl) dX10_is_81 w_1273 ?_
            refine ev_iconst 4 dX10_is_84 (by decide) ?_
            refine ev_iadd dX10_is_85 ?_
            refine ev_callV (M' := mX10_look) [.int ((σ2.1 245 47) + 4)] vX10_look G10 lay_245 dX10_is_86 w_1686 rfl rfl (Nat.le_of_ble_eq_true rfl) h ?_
            rintro r9 σ3 ⟨v3, rfl, h⟩
            refine ev_iload 6 dX10_is_89 rfl ?_
            refine ev_icmp_ne 98 dX10_is_91 (by decide) (fun c9 => ?_) (fun c9 => ?_)
            · replace h := h.2 c9
              refine ev_iconst 0 dX10_is_98 (by decide) ?_
              exact ev_zret (ty := .boolean) rfl (by rfl) dX10_is_99 h
            · replace h := h.1 c9
              refine ev_iconst 1 dX10_is_94 (by decide) ?_
              refine ev_goto 99 dX10_is_95 (by decide) ?_
              exact ev_zret (ty := .boolean) rfl (by rfl) dX10_is_99 h
        · replace h := h.2 c9
          refine ev_aload_n 0 dX10_is_44 rfl ?_
          refine ev_aload_n 0 dX10_is_45 rfl ?_
          refine ev_get G10 lay_245 (k := 47) rfl (Nat.le_of_ble_eq_true rfl) dX10_is_46 w_1273 ?_
          refine ev_iconst 2 dX10_is_49 (by decide) ?_
          refine ev_iadd dX10_is_50 ?_
          refine ev_callV (M' := mX10_look) [.int ((σ2.1 245 47) + 2)] vX10_look G10 lay_245 dX10_is_51 w_1686 rfl rfl (Nat.le_of_ble_eq_true rfl) h ?_
          rintro r9 σ4 ⟨v4, rfl, h⟩
          refine ev_iload 4 dX10_is_54 rfl ?_
          refine ev_icmp_ne 98 dX10_is_56 (by decide) (fun c9 => ?_) (fun c9 => ?_)
          · replace h := h.2 c9
            refine ev_iconst 0 dX10_is_98 (by decide) ?_
            exact ev_zret (ty := .boolean) rfl (by rfl) dX10_is_99 h
          · replace h := h.1 c9
            refine ev_aload_n 0 dX10_is_59 rfl ?_
            refine ev_aload_n 0 dX10_is_60 rfl ?_
            refine ev_get G10 lay_245 (k := 47) rfl (Nat.le_of_ble_eq_true rfl) dX10_is_61 w_1273 ?_
            refine ev_iconst 3 dX10_is_64 (by decide) ?_
            refine ev_iadd dX10_is_65 ?_
            refine ev_callV (M' := mX10_look) [.int ((σ4.1 245 47) + 3)] vX10_look G10 lay_245 dX10_is_66 w_1686 rfl rfl (Nat.le_of_ble_eq_true rfl) h ?_
            rintro r9 σ5 ⟨v5, rfl, h⟩
            refine ev_iload 5 dX10_is_69 rfl ?_
            refine ev_icmp_ne 98 dX10_is_71 (by decide) (fun c9 => ?_) (fun c9 => ?_)
            · replace h := h.2 c9
              refine ev_iconst 0 dX10_is_98 (by decide) ?_
              exact ev_zret (ty := .boolean) rfl (by rfl) dX10_is_99 h
            · replace h := h.1 c9
              refine ev_iload_n 1 dX10_is_74 rfl ?_
              refine ev_iconst 5 dX10_is_75 (by decide) ?_
              refine ev_icmp_lt 94 dX10_is_76 (by decide) (fun c9 => ?_) (fun c9 => ?_)
              · replace h := h.1 c9
                refine ev_iconst 1 dX10_is_94 (by decide) ?_
                refine ev_goto 99 dX10_is_95 (by decide) ?_
                exact ev_zret (ty := .boolean) rfl (by rfl) dX10_is_99 h
              · replace h := h.2 c9
                refine ev_aload_n 0 dX10_is_79 rfl ?_
                refine ev_aload_n 0 dX10_is_80 rfl ?_
                refine ev_get G10 lay_245 (k := 47) rfl (Nat.le_of_ble_eq_true rfl) dX10_is_81 w_1273 ?_
                refine ev_iconst 4 dX10_is_84 (by decide) ?_
                refine ev_iadd dX10_is_85 ?_
                refine ev_callV (M' := mX10_look) [.int ((σ5.1 245 47) + 4)] vX10_look G10 lay_245 dX10_is_86 w_1686 rfl rfl (Nat.le_of_ble_eq_true rfl) h ?_
                rintro r9 σ6 ⟨v6, rfl, h⟩
                refine ev_iload 6 dX10_is_89 rfl ?_
                refine ev_icmp_ne 98 dX10_is_91 (by decide) (fun c9 => ?_) (fun c9 => ?_)
                · replace h := h.2 c9
                  refine ev_iconst 0 dX10_is_98 (by decide) ?_
                  exact ev_zret (ty := .boolean) rfl (by rfl) dX10_is_99 h
                · replace h := h.1 c9
                  refine ev_iconst 1 dX10_is_94 (by decide) ?_
                  refine ev_goto 99 dX10_is_95 (by decide) ?_
                  exact ev_zret (ty := .boolean) rfl (by rfl) dX10_is_99 h
theorem EX10_nameNow {N : Nat} {σ : Sg} {Q : Option Value → Sg → Prop} (h : EvM (N + 1) mX10_is [.ref 245, .int 4, .int 115, .int 105, .int 103, .int 110, .int 0] σ (fun r9 σ1 => ∃ v1, r9 = some (.int v1) ∧ ((v1 = 0 → EvM (N + 1) mX10_is [.ref 245, .int 5, .int 115, .int 111, .int 117, .int 110, .int 100] σ1 (fun r9 σ2 => ∃ v2, r9 = some (.int v2) ∧ ((v2 = 0 → EvM (N + 1) mX10_is [.ref 245, .int 4, .int 119, .int 111, .int 114, .int 100, .int 0] σ2 (fun r9 σ3 => ∃ v3, r9 = some (.int v3) ∧ ((v3 = 0 → EvM (N + 1) mX10_is [.ref 245, .int 4, .int 110, .int 97, .int 109, .int 101, .int 0] σ3 (fun r9 σ4 => ∃ v4, r9 = some (.int v4) ∧ ((v4 = 0 → EvM (N + 1) mX10_is [.ref 245, .int 6, .int 116, .int 111, .int 110, .int 103, .int 117] σ4 (fun r9 σ5 => ∃ v5, r9 = some (.int v5) ∧ ((v5 = 0 → EvM (N + 1) mX10_is [.ref 245, .int 2, .int 111, .int 110, .int 0, .int 0, .int 0] σ5 (fun r9 σ6 => ∃ v6, r9 = some (.int v6) ∧ ((v6 = 0 → Q (some (.int (-4))) σ6) ∧ (¬ v6 = 0 → Q (some (.int 5)) σ6)))) ∧ (¬ v5 = 0 → EvM (N + 1) mX10_look [.ref 245, .int ((σ5.1 245 47) + 5)] σ5 (fun r9 σ7 => ∃ v7, r9 = some (.int v7) ∧ ((v7 = 101 → Q (some (.int 4)) σ7) ∧ (¬ v7 = 101 → EvM (N + 1) mX10_is [.ref 245, .int 2, .int 111, .int 110, .int 0, .int 0, .int 0] σ7 (fun r9 σ8 => ∃ v8, r9 = some (.int v8) ∧ ((v8 = 0 → Q (some (.int (-4))) σ8) ∧ (¬ v8 = 0 → Q (some (.int 5)) σ8)))))))))) ∧ (¬ v4 = 0 → Q (some (.int 3)) σ4)))) ∧ (¬ v3 = 0 → Q (some (.int 2)) σ3)))) ∧ (¬ v2 = 0 → Q (some (.int 1)) σ2)))) ∧ (¬ v1 = 0 → Q (some (.int 0)) σ1)))) : EvM (N + 2) mX10_nameNow [.ref 245] σ Q := by
  refine ev_entry rfl (Nat.le_of_ble_eq_true rfl) (lv := [(0, .ref 245)]) rfl ?_
  refine ev_aload_n 0 dX10_nameNow_0 rfl ?_
  refine ev_iconst 4 dX10_nameNow_1 (by decide) ?_
  refine ev_bipush 115 dX10_nameNow_2 (by decide) ?_
  refine ev_bipush 105 dX10_nameNow_4 (by decide) ?_
  refine ev_bipush 103 dX10_nameNow_6 (by decide) ?_
  refine ev_bipush 110 dX10_nameNow_8 (by decide) ?_
  refine ev_iconst 0 dX10_nameNow_10 (by decide) ?_
  refine ev_callV (M' := mX10_is) [.int 4, .int 115, .int 105, .int 103, .int 110, .int 0] vX10_is G10 lay_245 dX10_nameNow_11 w_1696 rfl rfl (Nat.le_of_ble_eq_true rfl) h ?_
  rintro r9 σ1 ⟨v1, rfl, h⟩
  refine ev_if_eq 19 dX10_nameNow_14 (by decide) (fun c9 => ?_) (fun c9 => ?_)
  · replace h := h.1 c9
    refine ev_aload_n 0 dX10_nameNow_19 rfl ?_
    refine ev_iconst 5 dX10_nameNow_20 (by decide) ?_
    refine ev_bipush 115 dX10_nameNow_21 (by decide) ?_
    refine ev_bipush 111 dX10_nameNow_23 (by decide) ?_
    refine ev_bipush 117 dX10_nameNow_25 (by decide) ?_
    refine ev_bipush 110 dX10_nameNow_27 (by decide) ?_
    refine ev_bipush 100 dX10_nameNow_29 (by decide) ?_
    refine ev_callV (M' := mX10_is) [.int 5, .int 115, .int 111, .int 117, .int 110, .int 100] vX10_is G10 lay_245 dX10_nameNow_31 w_1696 rfl rfl (Nat.le_of_ble_eq_true rfl) h ?_
    rintro r9 σ2 ⟨v2, rfl, h⟩
    refine ev_if_eq 39 dX10_nameNow_34 (by decide) (fun c9 => ?_) (fun c9 => ?_)
    · replace h := h.1 c9
      refine ev_aload_n 0 dX10_nameNow_39 rfl ?_
      refine ev_iconst 4 dX10_nameNow_40 (by decide) ?_
      refine ev_bipush 119 dX10_nameNow_41 (by decide) ?_
      refine ev_bipush 111 dX10_nameNow_43 (by decide) ?_
      refine ev_bipush 114 dX10_nameNow_45 (by decide) ?_
      refine ev_bipush 100 dX10_nameNow_47 (by decide) ?_
      refine ev_iconst 0 dX10_nameNow_49 (by decide) ?_
      refine ev_callV (M' := mX10_is) [.int 4, .int 119, .int 111, .int 114, .int 100, .int 0] vX10_is G10 lay_245 dX10_nameNow_50 w_1696 rfl rfl (Nat.le_of_ble_eq_true rfl) h ?_
      rintro r9 σ3 ⟨v3, rfl, h⟩
      refine ev_if_eq 58 dX10_nameNow_53 (by decide) (fun c9 => ?_) (fun c9 => ?_)
      · replace h := h.1 c9
        refine ev_aload_n 0 dX10_nameNow_58 rfl ?_
        refine ev_iconst 4 dX10_nameNow_59 (by decide) ?_
        refine ev_bipush 110 dX10_nameNow_60 (by decide) ?_
        refine ev_bipush 97 dX10_nameNow_62 (by decide) ?_
        refine ev_bipush 109 dX10_nameNow_64 (by decide) ?_
        refine ev_bipush 101 dX10_nameNow_66 (by decide) ?_
        refine ev_iconst 0 dX10_nameNow_68 (by decide) ?_
        refine ev_callV (M' := mX10_is) [.int 4, .int 110, .int 97, .int 109, .int 101, .int 0] vX10_is G10 lay_245 dX10_nameNow_69 w_1696 rfl rfl (Nat.le_of_ble_eq_true rfl) h ?_
        rintro r9 σ4 ⟨v4, rfl, h⟩
        refine ev_if_eq 77 dX10_nameNow_72 (by decide) (fun c9 => ?_) (fun c9 => ?_)
        · replace h := h.1 c9
          refine ev_aload_n 0 dX10_nameNow_77 rfl ?_
          refine ev_bipush 6 dX10_nameNow_78 (by decide) ?_
          refine ev_bipush 116 dX10_nameNow_80 (by decide) ?_
          refine ev_bipush 111 dX10_nameNow_82 (by decide) ?_
          refine ev_bipush 110 dX10_nameNow_84 (by decide) ?_
          refine ev_bipush 103 dX10_nameNow_86 (by decide) ?_
          refine ev_bipush 117 dX10_nameNow_88 (by decide) ?_
          refine ev_callV (M' := mX10_is) [.int 6, .int 116, .int 111, .int 110, .int 103, .int 117] vX10_is G10 lay_245 dX10_nameNow_90 w_1696 rfl rfl (Nat.le_of_ble_eq_true rfl) h ?_
          rintro r9 σ5 ⟨v5, rfl, h⟩
          refine ev_if_eq 113 dX10_nameNow_93 (by decide) (fun c9 => ?_) (fun c9 => ?_)
          · replace h := h.1 c9
            refine ev_aload_n 0 dX10_nameNow_113 rfl ?_
            refine ev_iconst 2 dX10_nameNow_114 (by decide) ?_
            refine ev_bipush 111 dX10_nameNow_115 (by decide) ?_
            refine ev_bipush 110 dX10_nameNow_117 (by decide) ?_
            refine ev_iconst 0 dX10_nameNow_119 (by decide) ?_
            refine ev_iconst 0 dX10_nameNow_120 (by decide) ?_
            refine ev_iconst 0 dX10_nameNow_121 (by decide) ?_
            refine ev_callV (M' := mX10_is) [.int 2, .int 111, .int 110, .int 0, .int 0, .int 0] vX10_is G10 lay_245 dX10_nameNow_122 w_1696 rfl rfl (Nat.le_of_ble_eq_true rfl) h ?_
            rintro r9 σ6 ⟨v6, rfl, h⟩
            refine ev_if_eq 132 dX10_nameNow_125 (by decide) (fun c9 => ?_) (fun c9 => ?_)
            · replace h := h.1 c9
              refine ev_bipush (-4) dX10_nameNow_132 (by decide) ?_
              exact ev_iret rfl dX10_nameNow_134 h
            · replace h := h.2 c9
              refine ev_iconst 5 dX10_nameNow_128 (by decide) ?_
              refine ev_goto 134 dX10_nameNow_129 (by decide) ?_
              exact ev_iret rfl dX10_nameNow_134 h
          · replace h := h.2 c9
            refine ev_aload_n 0 dX10_nameNow_96 rfl ?_
            refine ev_aload_n 0 dX10_nameNow_97 rfl ?_
            refine ev_get G10 lay_245 (k := 47) rfl (Nat.le_of_ble_eq_true rfl) dX10_nameNow_98 w_1273 ?_
            refine ev_iconst 5 dX10_nameNow_101 (by decide) ?_
            refine ev_iadd dX10_nameNow_102 ?_
            refine ev_callV (M' := mX10_look) [.int ((σ5.1 245 47) + 5)] vX10_look G10 lay_245 dX10_nameNow_103 w_1686 rfl rfl (Nat.le_of_ble_eq_true rfl) h ?_
            rintro r9 σ7 ⟨v7, rfl, h⟩
            refine ev_bipush 101 dX10_nameNow_106 (by decide) ?_
            refine ev_icmp_ne 113 dX10_nameNow_108 (by decide) (fun c9 => ?_) (fun c9 => ?_)
            · replace h := h.2 c9
              refine ev_aload_n 0 dX10_nameNow_113 rfl ?_
              refine ev_iconst 2 dX10_nameNow_114 (by decide) ?_
              refine ev_bipush 111 dX10_nameNow_115 (by decide) ?_
              refine ev_bipush 110 dX10_nameNow_117 (by decide) ?_
              refine ev_iconst 0 dX10_nameNow_119 (by decide) ?_
              refine ev_iconst 0 dX10_nameNow_120 (by decide) ?_
              refine ev_iconst 0 dX10_nameNow_121 (by decide) ?_
              refine ev_callV (M' := mX10_is) [.int 2, .int 111, .int 110, .int 0, .int 0, .int 0] vX10_is G10 lay_245 dX10_nameNow_122 w_1696 rfl rfl (Nat.le_of_ble_eq_true rfl) h ?_
              rintro r9 σ8 ⟨v8, rfl, h⟩
              refine ev_if_eq 132 dX10_nameNow_125 (by decide) (fun c9 => ?_) (fun c9 => ?_)
              · replace h := h.1 c9
                refine ev_bipush (-4) dX10_nameNow_132 (by decide) ?_
                exact ev_iret rfl dX10_nameNow_134 h
              · replace h := h.2 c9
                refine ev_iconst 5 dX10_nameNow_128 (by decide) ?_
                refine ev_goto 134 dX10_nameNow_129 (by decide) ?_
                exact ev_iret rfl dX10_nameNow_134 h
            · replace h := h.1 c9
              refine ev_iconst 4 dX10_nameNow_111 (by decide) ?_
              exact ev_iret rfl dX10_nameNow_112 h
        · replace h := h.2 c9
          refine ev_iconst 3 dX10_nameNow_75 (by decide) ?_
          exact ev_iret rfl dX10_nameNow_76 h
      · replace h := h.2 c9
        refine ev_iconst 2 dX10_nameNow_56 (by decide) ?_
        exact ev_iret rfl dX10_nameNow_57 h
    · replace h := h.2 c9
      refine ev_iconst 1 dX10_nameNow_37 (by decide) ?_
      exact ev_iret rfl dX10_nameNow_38 h
  · replace h := h.2 c9
    refine ev_iconst 0 dX10_nameNow_17 (by decide) ?_
    exact ev_iret rfl dX10_nameNow_18 h
abbrev KX10_next_8 (N : Nat) (σ : Sg) (Q : Option Value → Sg → Prop) : Prop := Ev (N + 3) mX10_next 8 [(0, .ref 245)] [] σ Q
abbrev KX10_next_82 (N : Nat) (σ : Sg) (Q : Option Value → Sg → Prop) : Prop := Ev (N + 3) mX10_next 82 [(0, .ref 245)] [] σ Q
abbrev KX10_next_170 (N : Nat) (σ : Sg) (Q : Option Value → Sg → Prop) : Prop := Ev (N + 3) mX10_next 170 [(0, .ref 245)] [] σ Q
theorem EX10_next {N : Nat} {σ : Sg} {Q : Option Value → Sg → Prop} (h : ((σ.1 245 50) ≤ 0 → KX10_next_8 N σ Q) ∧ (¬ (σ.1 245 50) ≤ 0 → Q none σ)) : EvM (N + 3) mX10_next [.ref 245] σ Q := by
  refine ev_entry rfl (Nat.le_of_ble_eq_true rfl) (lv := [(0, .ref 245)]) rfl ?_
  refine ev_aload_n 0 dX10_next_0 rfl ?_
  refine ev_get G10 lay_245 (k := 50) rfl (Nat.le_of_ble_eq_true rfl) dX10_next_1 w_1276 ?_
  refine ev_if_le 8 dX10_next_4 (by decide) (fun c9 => ?_) (fun c9 => ?_)
  · replace h := h.1 c9
    refine ev_sub [0] rfl ?_
    exact h
  · replace h := h.2 c9
    exact ev_vret rfl dX10_next_7 h
theorem BX10_next_8 {N : Nat} {σ : Sg} {Q : Option Value → Sg → Prop} (h : EvM (N + 2) mX10_look [.ref 245, .int (σ.1 245 46)] σ (fun r9 σ1 => ∃ v1, r9 = some (.int v1) ∧ ((v1 = 32 → KX10_next_8 N (u1 σ1 245 46 ((σ1.1 245 46) + 1)) Q) ∧ (¬ v1 = 32 → EvM (N + 2) mX10_look [.ref 245, .int ((u1 σ1 245 47 (σ1.1 245 46)).1 245 46)] (u1 σ1 245 47 (σ1.1 245 46)) (fun r9 σ2 => ∃ v2, r9 = some (.int v2) ∧ ((0 ≤ v2 → ((97 ≤ ((v2).toInt64).toInt ∧ ((v2).toInt64).toInt ≤ 122) → KX10_next_82 N (u1 σ2 245 48 1) Q) ∧ (¬ (97 ≤ ((v2).toInt64).toInt ∧ ((v2).toInt64).toInt ≤ 122) → ((48 ≤ ((v2).toInt64).toInt ∧ ((v2).toInt64).toInt ≤ 57) → KX10_next_170 N (u1 (u1 σ2 245 48 2) 245 49 0) Q) ∧ (¬ (48 ≤ ((v2).toInt64).toInt ∧ ((v2).toInt64).toInt ≤ 57) → (v2 = 59 → (v2 = 59 → EvM (N + 2) mX10_wants [.ref 245, .int 1, .int 1] (u1 σ2 245 48 3) (fun r9 σ6 => r9 = none ∧ (Q none (u1 σ6 245 46 ((σ6.1 245 46) + 1))))) ∧ (¬ v2 = 59 → (v2 = 44 → EvM (N + 2) mX10_wants [.ref 245, .int 1, .int 1] (u1 σ2 245 48 3) (fun r9 σ8 => r9 = none ∧ (Q none (u1 σ8 245 46 ((σ8.1 245 46) + 1))))) ∧ (¬ v2 = 44 → EvM (N + 2) mX10_wants [.ref 245, .int 0, .int 1] (u1 σ2 245 48 3) (fun r9 σ7 => r9 = none ∧ (Q none (u1 σ7 245 46 ((σ7.1 245 46) + 1))))))) ∧ (¬ v2 = 59 → (v2 = 59 → EvM (N + 2) mX10_wants [.ref 245, .int 1, .int 1] (u1 σ2 245 48 4) (fun r9 σ3 => r9 = none ∧ (Q none (u1 σ3 245 46 ((σ3.1 245 46) + 1))))) ∧ (¬ v2 = 59 → (v2 = 44 → EvM (N + 2) mX10_wants [.ref 245, .int 1, .int 1] (u1 σ2 245 48 4) (fun r9 σ5 => r9 = none ∧ (Q none (u1 σ5 245 46 ((σ5.1 245 46) + 1))))) ∧ (¬ v2 = 44 → EvM (N + 2) mX10_wants [.ref 245, .int 0, .int 1] (u1 σ2 245 48 4) (fun r9 σ4 => r9 = none ∧ (Q none (u1 σ4 245 46 ((σ4.1 245 46) + 1)))))))))) ∧ (¬ 0 ≤ v2 → Q none (u1 σ2 245 48 0)))))))) : KX10_next_8 N σ Q := by
  refine ev_aload_n 0 dX10_next_8 rfl ?_
  refine ev_aload_n 0 dX10_next_9 rfl ?_
  refine ev_get G10 lay_245 (k := 46) rfl (Nat.le_of_ble_eq_true rfl) dX10_next_10 w_1272 ?_
  refine ev_callV (M' := mX10_look) [.int (σ.1 245 46)] vX10_look G10 lay_245 dX10_next_13 w_1686 rfl rfl (Nat.le_of_ble_eq_true rfl) h ?_
  rintro r9 σ1 ⟨v1, rfl, h⟩
  refine ev_bipush 32 dX10_next_16 (by decide) ?_
  refine ev_icmp_ne 34 dX10_next_18 (by decide) (fun c9 => ?_) (fun c9 => ?_)
  · replace h := h.2 c9
    refine ev_aload_n 0 dX10_next_34 rfl ?_
    refine ev_aload_n 0 dX10_next_35 rfl ?_
    refine ev_get G10 lay_245 (k := 46) rfl (Nat.le_of_ble_eq_true rfl) dX10_next_36 w_1272 ?_
    refine ev_put G10 lay_245 (k := 47) rfl (Nat.le_of_ble_eq_true rfl) rfl (by decide +kernel) dX10_next_39 w_1273 ?_
    refine ev_aload_n 0 dX10_next_42 rfl ?_
    refine ev_aload_n 0 dX10_next_43 rfl ?_
    refine ev_get G10 lay_245 (k := 46) rfl (Nat.le_of_ble_eq_true rfl) dX10_next_44 w_1272 ?_
    refine ev_callV (M' := mX10_look) [.int ((u1 σ1 245 47 (σ1.1 245 46)).1 245 46)] vX10_look G10 lay_245 dX10_next_47 w_1686 rfl rfl (Nat.le_of_ble_eq_true rfl) h ?_
    rintro r9 σ2 ⟨v2, rfl, h⟩
    refine ev_istore_n (lv' := [(1, .int v2), (0, .ref 245)]) dX10_next_50 (Nat.le_of_ble_eq_true rfl) rfl ?_
    refine ev_iload_n 0 dX10_next_51 rfl ?_
    refine ev_if_ge 63 dX10_next_52 (by decide) (fun c9 => ?_) (fun c9 => ?_)
    · replace h := h.1 c9
      refine ev_iload_n 0 dX10_next_63 rfl ?_
      refine ev_i2l dX10_next_64 ?_
      refine ev_ldc2 97 dX10_next_65 w_1690 ?_
      refine ev_ldc2 122 dX10_next_68 w_1691 ?_
      refine ev_callS (M' := mX10_in) [.long ((v2).toInt64), .long 97, .long 122] vX10_in dX10_next_71 w_1421 rfl rfl (Nat.le_of_ble_eq_true rfl) (C10_in (P := 97 ≤ ((v2).toInt64).toInt ∧ ((v2).toInt64).toInt ≤ 122) (by (try simp only [i_l]); exact Iff.rfl) (Q := fun r9 s9 => σ2 = s9 ∧ ((r9 = some (.int 1) ∧ (97 ≤ ((v2).toInt64).toInt ∧ ((v2).toInt64).toInt ≤ 122)) ∨ (r9 = some (.int 0) ∧ ¬ (97 ≤ ((v2).toInt64).toInt ∧ ((v2).toInt64).toInt ≤ 122)))) ⟨fun c9 => ⟨rfl, Or.inl ⟨rfl, c9⟩⟩, fun c9 => ⟨rfl, Or.inr ⟨rfl, c9⟩⟩⟩) ?_
      rintro r9 s9 ⟨rfl, ⟨rfl, c9⟩ | ⟨rfl, c9⟩⟩
      · replace h := h.1 c9
        refine ev_if_eq 146 dX10_next_74 (by decide) (fun c9 => ?_) (fun c9 => ?_)
        · exact absurd c9 (by decide)
        · refine ev_aload_n 1 dX10_next_77 rfl ?_
          refine ev_iconst 1 dX10_next_78 (by decide) ?_
          refine ev_put G10 lay_245 (k := 48) rfl (Nat.le_of_ble_eq_true rfl) rfl (by decide +kernel) dX10_next_79 w_1274 ?_
          refine ev_sub [1] rfl ?_
          exact h
      · replace h := h.2 c9
        refine ev_if_eq 146 dX10_next_74 (by decide) (fun c9 => ?_) (fun c9 => ?_)
        · refine ev_iload_n 0 dX10_next_146 rfl ?_
          refine ev_i2l dX10_next_147 ?_
          refine ev_ldc2 48 dX10_next_148 w_1704 ?_
          refine ev_ldc2 57 dX10_next_151 w_1705 ?_
          refine ev_callS (M' := mX10_in) [.long ((v2).toInt64), .long 48, .long 57] vX10_in dX10_next_154 w_1421 rfl rfl (Nat.le_of_ble_eq_true rfl) (C10_in (P := 48 ≤ ((v2).toInt64).toInt ∧ ((v2).toInt64).toInt ≤ 57) (by (try simp only [i_l]); exact Iff.rfl) (Q := fun r9 s9 => σ2 = s9 ∧ ((r9 = some (.int 1) ∧ (48 ≤ ((v2).toInt64).toInt ∧ ((v2).toInt64).toInt ≤ 57)) ∨ (r9 = some (.int 0) ∧ ¬ (48 ≤ ((v2).toInt64).toInt ∧ ((v2).toInt64).toInt ≤ 57)))) ⟨fun c9 => ⟨rfl, Or.inl ⟨rfl, c9⟩⟩, fun c9 => ⟨rfl, Or.inr ⟨rfl, c9⟩⟩⟩) ?_
          rintro r9 s9 ⟨rfl, ⟨rfl, c9⟩ | ⟨rfl, c9⟩⟩
          · replace h := h.1 c9
            refine ev_if_eq 273 dX10_next_157 (by decide) (fun c9 => ?_) (fun c9 => ?_)
            · exact absurd c9 (by decide)
            · refine ev_aload_n 1 dX10_next_160 rfl ?_
              refine ev_iconst 2 dX10_next_161 (by decide) ?_
              refine ev_put G10 lay_245 (k := 48) rfl (Nat.le_of_ble_eq_true rfl) rfl (by decide +kernel) dX10_next_162 w_1274 ?_
              refine ev_aload_n 1 dX10_next_165 rfl ?_
              refine ev_iconst 0 dX10_next_166 (by decide) ?_
              refine ev_put G10 lay_245 (k := 49) rfl (Nat.le_of_ble_eq_true rfl) rfl (by decide +kernel) dX10_next_167 w_1275 ?_
              refine ev_sub [1] rfl ?_
              exact h
          · replace h := h.2 c9
            refine ev_if_eq 273 dX10_next_157 (by decide) (fun c9 => ?_) (fun c9 => ?_)
            · refine ev_aload_n 1 dX10_next_273 rfl ?_
              refine ev_iload_n 0 dX10_next_274 rfl ?_
              refine ev_bipush 59 dX10_next_275 (by decide) ?_
              refine ev_icmp_ne 284 dX10_next_277 (by decide) (fun c9 => ?_) (fun c9 => ?_)
              · replace h := h.2 c9
                refine ev_iconst 4 dX10_next_284 (by decide) ?_
                refine ev_put G10 lay_245 (k := 48) rfl (Nat.le_of_ble_eq_true rfl) rfl (by decide +kernel) dX10_next_285 w_1274 ?_
                refine ev_aload_n 1 dX10_next_288 rfl ?_
                refine ev_iload_n 0 dX10_next_289 rfl ?_
                refine ev_bipush 59 dX10_next_290 (by decide) ?_
                refine ev_icmp_eq 301 dX10_next_292 (by decide) (fun c9 => ?_) (fun c9 => ?_)
                · replace h := h.1 c9
                  refine ev_iconst 1 dX10_next_301 (by decide) ?_
                  refine ev_goto 306 dX10_next_302 (by decide) ?_
                  refine ev_iconst 1 dX10_next_306 (by decide) ?_
                  refine ev_callV (M' := mX10_wants) [.int 1, .int 1] vX10_wants G10 lay_245 dX10_next_307 w_1700 rfl rfl (Nat.le_of_ble_eq_true rfl) h ?_
                  rintro r9 σ3 ⟨rfl, h⟩
                  refine ev_aload_n 1 dX10_next_310 rfl ?_
                  refine ev_dup dX10_next_311 rfl ?_
                  refine ev_get G10 lay_245 (k := 46) rfl (Nat.le_of_ble_eq_true rfl) dX10_next_312 w_1272 ?_
                  refine ev_iconst 1 dX10_next_315 (by decide) ?_
                  refine ev_iadd dX10_next_316 ?_
                  refine ev_put G10 lay_245 (k := 46) rfl (Nat.le_of_ble_eq_true rfl) rfl (by decide +kernel) dX10_next_317 w_1272 ?_
                  exact ev_vret rfl dX10_next_320 h
                · replace h := h.2 c9
                  refine ev_iload_n 0 dX10_next_295 rfl ?_
                  refine ev_bipush 44 dX10_next_296 (by decide) ?_
                  refine ev_icmp_ne 305 dX10_next_298 (by decide) (fun c9 => ?_) (fun c9 => ?_)
                  · replace h := h.2 c9
                    refine ev_iconst 0 dX10_next_305 (by decide) ?_
                    refine ev_iconst 1 dX10_next_306 (by decide) ?_
                    refine ev_callV (M' := mX10_wants) [.int 0, .int 1] vX10_wants G10 lay_245 dX10_next_307 w_1700 rfl rfl (Nat.le_of_ble_eq_true rfl) h ?_
                    rintro r9 σ4 ⟨rfl, h⟩
                    refine ev_aload_n 1 dX10_next_310 rfl ?_
                    refine ev_dup dX10_next_311 rfl ?_
                    refine ev_get G10 lay_245 (k := 46) rfl (Nat.le_of_ble_eq_true rfl) dX10_next_312 w_1272 ?_
                    refine ev_iconst 1 dX10_next_315 (by decide) ?_
                    refine ev_iadd dX10_next_316 ?_
                    refine ev_put G10 lay_245 (k := 46) rfl (Nat.le_of_ble_eq_true rfl) rfl (by decide +kernel) dX10_next_317 w_1272 ?_
                    exact ev_vret rfl dX10_next_320 h
                  · replace h := h.1 c9
                    refine ev_iconst 1 dX10_next_301 (by decide) ?_
                    refine ev_goto 306 dX10_next_302 (by decide) ?_
                    refine ev_iconst 1 dX10_next_306 (by decide) ?_
                    refine ev_callV (M' := mX10_wants) [.int 1, .int 1] vX10_wants G10 lay_245 dX10_next_307 w_1700 rfl rfl (Nat.le_of_ble_eq_true rfl) h ?_
                    rintro r9 σ5 ⟨rfl, h⟩
                    refine ev_aload_n 1 dX10_next_310 rfl ?_
                    refine ev_dup dX10_next_311 rfl ?_
                    refine ev_get G10 lay_245 (k := 46) rfl (Nat.le_of_ble_eq_true rfl) dX10_next_312 w_1272 ?_
                    refine ev_iconst 1 dX10_next_315 (by decide) ?_
                    refine ev_iadd dX10_next_316 ?_
                    refine ev_put G10 lay_245 (k := 46) rfl (Nat.le_of_ble_eq_true rfl) rfl (by decide +kernel) dX10_next_317 w_1272 ?_
                    exact ev_vret rfl dX10_next_320 h
              · replace h := h.1 c9
                refine ev_iconst 3 dX10_next_280 (by decide) ?_
                refine ev_goto 285 dX10_next_281 (by decide) ?_
                refine ev_put G10 lay_245 (k := 48) rfl (Nat.le_of_ble_eq_true rfl) rfl (by decide +kernel) dX10_next_285 w_1274 ?_
                refine ev_aload_n 1 dX10_next_288 rfl ?_
                refine ev_iload_n 0 dX10_next_289 rfl ?_
                refine ev_bipush 59 dX10_next_290 (by decide) ?_
                refine ev_icmp_eq 301 dX10_next_292 (by decide) (fun c9 => ?_) (fun c9 => ?_)
                · replace h := h.1 c9
                  refine ev_iconst 1 dX10_next_301 (by decide) ?_
                  refine ev_goto 306 dX10_next_302 (by decide) ?_
                  refine ev_iconst 1 dX10_next_306 (by decide) ?_
                  refine ev_callV (M' := mX10_wants) [.int 1, .int 1] vX10_wants G10 lay_245 dX10_next_307 w_1700 rfl rfl (Nat.le_of_ble_eq_true rfl) h ?_
                  rintro r9 σ6 ⟨rfl, h⟩
                  refine ev_aload_n 1 dX10_next_310 rfl ?_
                  refine ev_dup dX10_next_311 rfl ?_
                  refine ev_get G10 lay_245 (k := 46) rfl (Nat.le_of_ble_eq_true rfl) dX10_next_312 w_1272 ?_
                  refine ev_iconst 1 dX10_next_315 (by decide) ?_
                  refine ev_iadd dX10_next_316 ?_
                  refine ev_put G10 lay_245 (k := 46) rfl (Nat.le_of_ble_eq_true rfl) rfl (by decide +kernel) dX10_next_317 w_1272 ?_
                  exact ev_vret rfl dX10_next_320 h
                · replace h := h.2 c9
                  refine ev_iload_n 0 dX10_next_295 rfl ?_
                  refine ev_bipush 44 dX10_next_296 (by decide) ?_
                  refine ev_icmp_ne 305 dX10_next_298 (by decide) (fun c9 => ?_) (fun c9 => ?_)
                  · replace h := h.2 c9
                    refine ev_iconst 0 dX10_next_305 (by decide) ?_
                    refine ev_iconst 1 dX10_next_306 (by decide) ?_
                    refine ev_callV (M' := mX10_wants) [.int 0, .int 1] vX10_wants G10 lay_245 dX10_next_307 w_1700 rfl rfl (Nat.le_of_ble_eq_true rfl) h ?_
                    rintro r9 σ7 ⟨rfl, h⟩
                    refine ev_aload_n 1 dX10_next_310 rfl ?_
                    refine ev_dup dX10_next_311 rfl ?_
                    refine ev_get G10 lay_245 (k := 46) rfl (Nat.le_of_ble_eq_true rfl) dX10_next_312 w_1272 ?_
                    refine ev_iconst 1 dX10_next_315 (by decide) ?_
                    refine ev_iadd dX10_next_316 ?_
                    refine ev_put G10 lay_245 (k := 46) rfl (Nat.le_of_ble_eq_true rfl) rfl (by decide +kernel) dX10_next_317 w_1272 ?_
                    exact ev_vret rfl dX10_next_320 h
                  · replace h := h.1 c9
                    refine ev_iconst 1 dX10_next_301 (by decide) ?_
                    refine ev_goto 306 dX10_next_302 (by decide) ?_
                    refine ev_iconst 1 dX10_next_306 (by decide) ?_
                    refine ev_callV (M' := mX10_wants) [.int 1, .int 1] vX10_wants G10 lay_245 dX10_next_307 w_1700 rfl rfl (Nat.le_of_ble_eq_true rfl) h ?_
                    rintro r9 σ8 ⟨rfl, h⟩
                    refine ev_aload_n 1 dX10_next_310 rfl ?_
                    refine ev_dup dX10_next_311 rfl ?_
                    refine ev_get G10 lay_245 (k := 46) rfl (Nat.le_of_ble_eq_true rfl) dX10_next_312 w_1272 ?_
                    refine ev_iconst 1 dX10_next_315 (by decide) ?_
                    refine ev_iadd dX10_next_316 ?_
                    refine ev_put G10 lay_245 (k := 46) rfl (Nat.le_of_ble_eq_true rfl) rfl (by decide +kernel) dX10_next_317 w_1272 ?_
                    exact ev_vret rfl dX10_next_320 h
            · exact absurd c9 (by decide)
        · exact absurd c9 (by decide)
    · replace h := h.2 c9
      refine ev_aload_n 1 dX10_next_55 rfl ?_
      refine ev_iconst 0 dX10_next_56 (by decide) ?_
      refine ev_put G10 lay_245 (k := 48) rfl (Nat.le_of_ble_eq_true rfl) rfl (by decide +kernel) dX10_next_57 w_1274 ?_
      refine ev_goto 320 dX10_next_60 (by decide) ?_
      exact ev_vret rfl dX10_next_320 h
  · replace h := h.1 c9
    refine ev_aload_n 0 dX10_next_21 rfl ?_
    refine ev_dup dX10_next_22 rfl ?_
    refine ev_get G10 lay_245 (k := 46) rfl (Nat.le_of_ble_eq_true rfl) dX10_next_23 w_1272 ?_
    refine ev_iconst 1 dX10_next_26 (by decide) ?_
    refine ev_iadd dX10_next_27 ?_
    refine ev_put G10 lay_245 (k := 46) rfl (Nat.le_of_ble_eq_true rfl) rfl (by decide +kernel) dX10_next_28 w_1272 ?_
    refine ev_goto 8 dX10_next_31 (by decide) ?_
    refine ev_sub [0] rfl ?_
    exact h
theorem BX10_next_82 {N : Nat} {σ : Sg} {Q : Option Value → Sg → Prop} (h : EvM (N + 2) mX10_look [.ref 245, .int (σ.1 245 46)] σ (fun r9 σ9 => ∃ v9, r9 = some (.int v9) ∧ (((97 ≤ ((v9).toInt64).toInt ∧ ((v9).toInt64).toInt ≤ 122) → KX10_next_82 N (u1 σ9 245 46 ((σ9.1 245 46) + 1)) Q) ∧ (¬ (97 ≤ ((v9).toInt64).toInt ∧ ((v9).toInt64).toInt ≤ 122) → EvM (N + 2) mX10_nameNow [.ref 245] σ9 (fun r9 σ10 => ∃ v10, r9 = some (.int v10) ∧ ((((u1 σ10 245 49 v10).1 245 49) = (-4) → EvM (N + 2) mX10_wants [.ref 245, .int 0, .int 1] (u1 σ10 245 49 v10) (fun r9 σ11 => r9 = none ∧ (Q none σ11))) ∧ (¬ ((u1 σ10 245 49 v10).1 245 49) = (-4) → EvM (N + 2) mX10_wants [.ref 245, .int 1, .int 1] (u1 σ10 245 49 v10) (fun r9 σ12 => r9 = none ∧ (Q none σ12))))))))) : KX10_next_82 N σ Q := by
  refine ev_aload_n 0 dX10_next_82 rfl ?_
  refine ev_aload_n 0 dX10_next_83 rfl ?_
  refine ev_get G10 lay_245 (k := 46) rfl (Nat.le_of_ble_eq_true rfl) dX10_next_84 w_1272 ?_
  refine ev_callV (M' := mX10_look) [.int (σ.1 245 46)] vX10_look G10 lay_245 dX10_next_87 w_1686 rfl rfl (Nat.le_of_ble_eq_true rfl) h ?_
  rintro r9 σ9 ⟨v9, rfl, h⟩
  refine ev_i2l dX10_next_90 ?_
  refine ev_ldc2 97 dX10_next_91 w_1690 ?_
  refine ev_ldc2 122 dX10_next_94 w_1691 ?_
  refine ev_callS (M' := mX10_in) [.long ((v9).toInt64), .long 97, .long 122] vX10_in dX10_next_97 w_1421 rfl rfl (Nat.le_of_ble_eq_true rfl) (C10_in (P := 97 ≤ ((v9).toInt64).toInt ∧ ((v9).toInt64).toInt ≤ 122) (by (try simp only [i_l]); exact Iff.rfl) (Q := fun r9 s9 => σ9 = s9 ∧ ((r9 = some (.int 1) ∧ (97 ≤ ((v9).toInt64).toInt ∧ ((v9).toInt64).toInt ≤ 122)) ∨ (r9 = some (.int 0) ∧ ¬ (97 ≤ ((v9).toInt64).toInt ∧ ((v9).toInt64).toInt ≤ 122)))) ⟨fun c9 => ⟨rfl, Or.inl ⟨rfl, c9⟩⟩, fun c9 => ⟨rfl, Or.inr ⟨rfl, c9⟩⟩⟩) ?_
  rintro r9 s9 ⟨rfl, ⟨rfl, c9⟩ | ⟨rfl, c9⟩⟩
  · replace h := h.1 c9
    refine ev_if_eq 116 dX10_next_100 (by decide) (fun c9 => ?_) (fun c9 => ?_)
    · exact absurd c9 (by decide)
    · refine ev_aload_n 0 dX10_next_103 rfl ?_
      refine ev_dup dX10_next_104 rfl ?_
      refine ev_get G10 lay_245 (k := 46) rfl (Nat.le_of_ble_eq_true rfl) dX10_next_105 w_1272 ?_
      refine ev_iconst 1 dX10_next_108 (by decide) ?_
      refine ev_iadd dX10_next_109 ?_
      refine ev_put G10 lay_245 (k := 46) rfl (Nat.le_of_ble_eq_true rfl) rfl (by decide +kernel) dX10_next_110 w_1272 ?_
      refine ev_goto 82 dX10_next_113 (by decide) ?_
      refine ev_sub [0] rfl ?_
      exact h
  · replace h := h.2 c9
    refine ev_if_eq 116 dX10_next_100 (by decide) (fun c9 => ?_) (fun c9 => ?_)
    · refine ev_aload_n 0 dX10_next_116 rfl ?_
      refine ev_aload_n 0 dX10_next_117 rfl ?_
      refine ev_callV (M' := mX10_nameNow) [] vX10_nameNow G10 lay_245 dX10_next_118 w_1692 rfl rfl (Nat.le_of_ble_eq_true rfl) h ?_
      rintro r9 σ10 ⟨v10, rfl, h⟩
      refine ev_put G10 lay_245 (k := 49) rfl (Nat.le_of_ble_eq_true rfl) rfl (by decide +kernel) dX10_next_121 w_1275 ?_
      refine ev_aload_n 0 dX10_next_124 rfl ?_
      refine ev_aload_n 0 dX10_next_125 rfl ?_
      refine ev_get G10 lay_245 (k := 49) rfl (Nat.le_of_ble_eq_true rfl) dX10_next_126 w_1275 ?_
      refine ev_bipush (-4) dX10_next_129 (by decide) ?_
      refine ev_icmp_eq 138 dX10_next_131 (by decide) (fun c9 => ?_) (fun c9 => ?_)
      · replace h := h.1 c9
        refine ev_iconst 0 dX10_next_138 (by decide) ?_
        refine ev_iconst 1 dX10_next_139 (by decide) ?_
        refine ev_callV (M' := mX10_wants) [.int 0, .int 1] vX10_wants G10 lay_245 dX10_next_140 w_1700 rfl rfl (Nat.le_of_ble_eq_true rfl) h ?_
        rintro r9 σ11 ⟨rfl, h⟩
        refine ev_goto 320 dX10_next_143 (by decide) ?_
        exact ev_vret rfl dX10_next_320 h
      · replace h := h.2 c9
        refine ev_iconst 1 dX10_next_134 (by decide) ?_
        refine ev_goto 139 dX10_next_135 (by decide) ?_
        refine ev_iconst 1 dX10_next_139 (by decide) ?_
        refine ev_callV (M' := mX10_wants) [.int 1, .int 1] vX10_wants G10 lay_245 dX10_next_140 w_1700 rfl rfl (Nat.le_of_ble_eq_true rfl) h ?_
        rintro r9 σ12 ⟨rfl, h⟩
        refine ev_goto 320 dX10_next_143 (by decide) ?_
        exact ev_vret rfl dX10_next_320 h
    · exact absurd c9 (by decide)
theorem BX10_next_170 {N : Nat} {σ : Sg} {Q : Option Value → Sg → Prop} (h : EvM (N + 2) mX10_look [.ref 245, .int (σ.1 245 46)] σ (fun r9 σ13 => ∃ v13, r9 = some (.int v13) ∧ (((48 ≤ ((v13).toInt64).toInt ∧ ((v13).toInt64).toInt ≤ 57) → (2 ≤ ((σ13.1 245 46) - (σ13.1 245 47)) → KX10_next_170 N (u1 (u1 σ13 245 49 (σ13.1 245 49)) 245 46 (((u1 σ13 245 49 (σ13.1 245 49)).1 245 46) + 1)) Q) ∧ (¬ 2 ≤ ((σ13.1 245 46) - (σ13.1 245 47)) → EvM (N + 2) mX10_look [.ref 245, .int (σ13.1 245 46)] σ13 (fun r9 σ14 => ∃ v14, r9 = some (.int v14) ∧ (KX10_next_170 N (u1 (u1 σ14 245 49 (((10 * (σ13.1 245 49)) + v14) - 48)) 245 46 (((u1 σ14 245 49 (((10 * (σ13.1 245 49)) + v14) - 48)).1 245 46) + 1)) Q)))) ∧ (¬ (48 ≤ ((v13).toInt64).toInt ∧ ((v13).toInt64).toInt ≤ 57) → (2 < ((σ13.1 245 46) - (σ13.1 245 47)) → EvM (N + 2) mX10_wants [.ref 245, .int 0, .int 1] σ13 (fun r9 σ15 => r9 = none ∧ (Q none σ15))) ∧ (¬ 2 < ((σ13.1 245 46) - (σ13.1 245 47)) → EvM (N + 2) mX10_wants [.ref 245, .int 1, .int 1] σ13 (fun r9 σ16 => r9 = none ∧ (Q none σ16))))))) : KX10_next_170 N σ Q := by
  refine ev_aload_n 0 dX10_next_170 rfl ?_
  refine ev_aload_n 0 dX10_next_171 rfl ?_
  refine ev_get G10 lay_245 (k := 46) rfl (Nat.le_of_ble_eq_true rfl) dX10_next_172 w_1272 ?_
  refine ev_callV (M' := mX10_look) [.int (σ.1 245 46)] vX10_look G10 lay_245 dX10_next_175 w_1686 rfl rfl (Nat.le_of_ble_eq_true rfl) h ?_
  rintro r9 σ13 ⟨v13, rfl, h⟩
  refine ev_i2l dX10_next_178 ?_
  refine ev_ldc2 48 dX10_next_179 w_1704 ?_
  refine ev_ldc2 57 dX10_next_182 w_1705 ?_
  refine ev_callS (M' := mX10_in) [.long ((v13).toInt64), .long 48, .long 57] vX10_in dX10_next_185 w_1421 rfl rfl (Nat.le_of_ble_eq_true rfl) (C10_in (P := 48 ≤ ((v13).toInt64).toInt ∧ ((v13).toInt64).toInt ≤ 57) (by (try simp only [i_l]); exact Iff.rfl) (Q := fun r9 s9 => σ13 = s9 ∧ ((r9 = some (.int 1) ∧ (48 ≤ ((v13).toInt64).toInt ∧ ((v13).toInt64).toInt ≤ 57)) ∨ (r9 = some (.int 0) ∧ ¬ (48 ≤ ((v13).toInt64).toInt ∧ ((v13).toInt64).toInt ≤ 57)))) ⟨fun c9 => ⟨rfl, Or.inl ⟨rfl, c9⟩⟩, fun c9 => ⟨rfl, Or.inr ⟨rfl, c9⟩⟩⟩) ?_
  rintro r9 s9 ⟨rfl, ⟨rfl, c9⟩ | ⟨rfl, c9⟩⟩
  · replace h := h.1 c9
    refine ev_if_eq 247 dX10_next_188 (by decide) (fun c9 => ?_) (fun c9 => ?_)
    · exact absurd c9 (by decide)
    · refine ev_aload_n 0 dX10_next_191 rfl ?_
      refine ev_aload_n 0 dX10_next_192 rfl ?_
      refine ev_get G10 lay_245 (k := 46) rfl (Nat.le_of_ble_eq_true rfl) dX10_next_193 w_1272 ?_
      refine ev_aload_n 0 dX10_next_196 rfl ?_
      refine ev_get G10 lay_245 (k := 47) rfl (Nat.le_of_ble_eq_true rfl) dX10_next_197 w_1273 ?_
      refine ev_isub dX10_next_200 ?_
      refine ev_iconst 2 dX10_next_201 (by decide) ?_
      refine ev_icmp_ge 227 dX10_next_202 (by decide) (fun c9 => ?_) (fun c9 => ?_)
      · replace h := h.1 c9
        refine ev_aload_n 0 dX10_next_227 rfl ?_
        refine ev_get G10 lay_245 (k := 49) rfl (Nat.le_of_ble_eq_true rfl) dX10_next_228 w_1275 ?_
        refine ev_put G10 lay_245 (k := 49) rfl (Nat.le_of_ble_eq_true rfl) rfl (by decide +kernel) dX10_next_231 w_1275 ?_
        refine ev_aload_n 0 dX10_next_234 rfl ?_
        refine ev_dup dX10_next_235 rfl ?_
        refine ev_get G10 lay_245 (k := 46) rfl (Nat.le_of_ble_eq_true rfl) dX10_next_236 w_1272 ?_
        refine ev_iconst 1 dX10_next_239 (by decide) ?_
        refine ev_iadd dX10_next_240 ?_
        refine ev_put G10 lay_245 (k := 46) rfl (Nat.le_of_ble_eq_true rfl) rfl (by decide +kernel) dX10_next_241 w_1272 ?_
        refine ev_goto 170 dX10_next_244 (by decide) ?_
        refine ev_sub [0] rfl ?_
        exact h
      · replace h := h.2 c9
        refine ev_bipush 10 dX10_next_205 (by decide) ?_
        refine ev_aload_n 0 dX10_next_207 rfl ?_
        refine ev_get G10 lay_245 (k := 49) rfl (Nat.le_of_ble_eq_true rfl) dX10_next_208 w_1275 ?_
        refine ev_imul dX10_next_211 ?_
        refine ev_aload_n 0 dX10_next_212 rfl ?_
        refine ev_aload_n 0 dX10_next_213 rfl ?_
        refine ev_get G10 lay_245 (k := 46) rfl (Nat.le_of_ble_eq_true rfl) dX10_next_214 w_1272 ?_
        refine ev_callV (M' := mX10_look) [.int (σ13.1 245 46)] vX10_look G10 lay_245 dX10_next_217 w_1686 rfl rfl (Nat.le_of_ble_eq_true rfl) h ?_
        rintro r9 σ14 ⟨v14, rfl, h⟩
        refine ev_iadd dX10_next_220 ?_
        refine ev_bipush 48 dX10_next_221 (by decide) ?_
        refine ev_isub dX10_next_223 ?_
        refine ev_goto 231 dX10_next_224 (by decide) ?_
        refine ev_put G10 lay_245 (k := 49) rfl (Nat.le_of_ble_eq_true rfl) rfl (by decide +kernel) dX10_next_231 w_1275 ?_
        refine ev_aload_n 0 dX10_next_234 rfl ?_
        refine ev_dup dX10_next_235 rfl ?_
        refine ev_get G10 lay_245 (k := 46) rfl (Nat.le_of_ble_eq_true rfl) dX10_next_236 w_1272 ?_
        refine ev_iconst 1 dX10_next_239 (by decide) ?_
        refine ev_iadd dX10_next_240 ?_
        refine ev_put G10 lay_245 (k := 46) rfl (Nat.le_of_ble_eq_true rfl) rfl (by decide +kernel) dX10_next_241 w_1272 ?_
        refine ev_goto 170 dX10_next_244 (by decide) ?_
        refine ev_sub [0] rfl ?_
        exact h
  · replace h := h.2 c9
    refine ev_if_eq 247 dX10_next_188 (by decide) (fun c9 => ?_) (fun c9 => ?_)
    · refine ev_aload_n 0 dX10_next_247 rfl ?_
      refine ev_aload_n 0 dX10_next_248 rfl ?_
      refine ev_get G10 lay_245 (k := 46) rfl (Nat.le_of_ble_eq_true rfl) dX10_next_249 w_1272 ?_
      refine ev_aload_n 0 dX10_next_252 rfl ?_
      refine ev_get G10 lay_245 (k := 47) rfl (Nat.le_of_ble_eq_true rfl) dX10_next_253 w_1273 ?_
      refine ev_isub dX10_next_256 ?_
      refine ev_iconst 2 dX10_next_257 (by decide) ?_
      refine ev_icmp_gt 265 dX10_next_258 (by decide) (fun c9 => ?_) (fun c9 => ?_)
      · replace h := h.1 c9
        refine ev_iconst 0 dX10_next_265 (by decide) ?_
        refine ev_iconst 1 dX10_next_266 (by decide) ?_
        refine ev_callV (M' := mX10_wants) [.int 0, .int 1] vX10_wants G10 lay_245 dX10_next_267 w_1700 rfl rfl (Nat.le_of_ble_eq_true rfl) h ?_
        rintro r9 σ15 ⟨rfl, h⟩
        refine ev_goto 320 dX10_next_270 (by decide) ?_
        exact ev_vret rfl dX10_next_320 h
      · replace h := h.2 c9
        refine ev_iconst 1 dX10_next_261 (by decide) ?_
        refine ev_goto 266 dX10_next_262 (by decide) ?_
        refine ev_iconst 1 dX10_next_266 (by decide) ?_
        refine ev_callV (M' := mX10_wants) [.int 1, .int 1] vX10_wants G10 lay_245 dX10_next_267 w_1700 rfl rfl (Nat.le_of_ble_eq_true rfl) h ?_
        rintro r9 σ16 ⟨rfl, h⟩
        refine ev_goto 320 dX10_next_270 (by decide) ?_
        exact ev_vret rfl dX10_next_320 h
    · exact absurd c9 (by decide)
abbrev KX10_readOn_4 (N : Nat) (σ : Sg) (Q : Option Value → Sg → Prop) (x1 : Int32) (x2 : Int32) (x3 : Int32) : Prop := Ev (N + 4) mX10_readOn 4 [(0, .ref 245), (1, .int x1), (2, .int x2), (3, .int x3)] [] σ Q
theorem EX10_readOn {N : Nat} {σ : Sg} {Q : Option Value → Sg → Prop} {x1 : Int32} (h : KX10_readOn_4 N σ Q x1 0 1) : EvM (N + 4) mX10_readOn [.ref 245, .int x1] σ Q := by
  refine ev_entry rfl (Nat.le_of_ble_eq_true rfl) (lv := [(0, .ref 245), (1, .int x1)]) rfl ?_
  refine ev_iconst 0 dX10_readOn_0 (by decide) ?_
  refine ev_istore_n (lv' := [(2, .int 0), (0, .ref 245), (1, .int x1)]) dX10_readOn_1 (Nat.le_of_ble_eq_true rfl) rfl ?_
  refine ev_iconst 1 dX10_readOn_2 (by decide) ?_
  refine ev_istore_n (lv' := [(3, .int 1), (2, .int 0), (0, .ref 245), (1, .int x1)]) dX10_readOn_3 (Nat.le_of_ble_eq_true rfl) rfl ?_
  refine ev_sub [2, 3, 1, 0] rfl ?_
  exact h
theorem BX10_readOn_4 {N : Nat} {σ : Sg} {Q : Option Value → Sg → Prop} {x1 : Int32} {x2 : Int32} {x3 : Int32} (h : (x3 = 0 → Q (some (.int x2)) σ) ∧ (¬ x3 = 0 → ((σ.1 245 50) = 0 → EvM (N + 3) mX10_next [.ref 245] σ (fun r9 σ1 => r9 = none ∧ (((σ1.1 245 48) = 2 → EvM (N + 3) mX10_wants [.ref 245, .int 1, .int 2] σ1 (fun r9 σ17 => r9 = none ∧ (((σ17.1 245 50) = 0 → (x1 ≤ (σ17.1 245 49) → EvM (N + 3) mX10_wants [.ref 245, .int 0, .int 3] σ17 (fun r9 σ20 => r9 = none ∧ (((σ20.1 245 50) = 0 → EvM (N + 3) mX10_next [.ref 245] σ20 (fun r9 σ22 => r9 = none ∧ (((σ22.1 245 48) = 4 → KX10_readOn_4 N σ22 Q x1 (x2 ||| (1 <<< ((σ20.1 245 49) &&& 31))) 1) ∧ (¬ (σ22.1 245 48) = 4 → KX10_readOn_4 N σ22 Q x1 (x2 ||| (1 <<< ((σ20.1 245 49) &&& 31))) 0)))) ∧ (¬ (σ20.1 245 50) = 0 → EvM (N + 3) mX10_next [.ref 245] σ20 (fun r9 σ21 => r9 = none ∧ (((σ21.1 245 48) = 4 → KX10_readOn_4 N σ21 Q x1 (x2 ||| 0) 1) ∧ (¬ (σ21.1 245 48) = 4 → KX10_readOn_4 N σ21 Q x1 (x2 ||| 0) 0))))))) ∧ (¬ x1 ≤ (σ17.1 245 49) → vp_in (σ17.1 245 49) 20 ∧ (((σ17.1 280 (σ17.1 245 49).toNatClampNeg) = (-4) → (((x2 >>> ((σ17.1 245 49) &&& 31)) &&& 1) = 0 → EvM (N + 3) mX10_wants [.ref 245, .int 1, .int 3] σ17 (fun r9 σ29 => r9 = none ∧ (((σ29.1 245 50) = 0 → EvM (N + 3) mX10_next [.ref 245] σ29 (fun r9 σ31 => r9 = none ∧ (((σ31.1 245 48) = 4 → KX10_readOn_4 N σ31 Q x1 (x2 ||| (1 <<< ((σ29.1 245 49) &&& 31))) 1) ∧ (¬ (σ31.1 245 48) = 4 → KX10_readOn_4 N σ31 Q x1 (x2 ||| (1 <<< ((σ29.1 245 49) &&& 31))) 0)))) ∧ (¬ (σ29.1 245 50) = 0 → EvM (N + 3) mX10_next [.ref 245] σ29 (fun r9 σ30 => r9 = none ∧ (((σ30.1 245 48) = 4 → KX10_readOn_4 N σ30 Q x1 (x2 ||| 0) 1) ∧ (¬ (σ30.1 245 48) = 4 → KX10_readOn_4 N σ30 Q x1 (x2 ||| 0) 0))))))) ∧ (¬ ((x2 >>> ((σ17.1 245 49) &&& 31)) &&& 1) = 0 → EvM (N + 3) mX10_wants [.ref 245, .int 0, .int 3] σ17 (fun r9 σ26 => r9 = none ∧ (((σ26.1 245 50) = 0 → EvM (N + 3) mX10_next [.ref 245] σ26 (fun r9 σ28 => r9 = none ∧ (((σ28.1 245 48) = 4 → KX10_readOn_4 N σ28 Q x1 (x2 ||| (1 <<< ((σ26.1 245 49) &&& 31))) 1) ∧ (¬ (σ28.1 245 48) = 4 → KX10_readOn_4 N σ28 Q x1 (x2 ||| (1 <<< ((σ26.1 245 49) &&& 31))) 0)))) ∧ (¬ (σ26.1 245 50) = 0 → EvM (N + 3) mX10_next [.ref 245] σ26 (fun r9 σ27 => r9 = none ∧ (((σ27.1 245 48) = 4 → KX10_readOn_4 N σ27 Q x1 (x2 ||| 0) 1) ∧ (¬ (σ27.1 245 48) = 4 → KX10_readOn_4 N σ27 Q x1 (x2 ||| 0) 0)))))))) ∧ (¬ (σ17.1 280 (σ17.1 245 49).toNatClampNeg) = (-4) → EvM (N + 3) mX10_wants [.ref 245, .int 0, .int 3] σ17 (fun r9 σ23 => r9 = none ∧ (((σ23.1 245 50) = 0 → EvM (N + 3) mX10_next [.ref 245] σ23 (fun r9 σ25 => r9 = none ∧ (((σ25.1 245 48) = 4 → KX10_readOn_4 N σ25 Q x1 (x2 ||| (1 <<< ((σ23.1 245 49) &&& 31))) 1) ∧ (¬ (σ25.1 245 48) = 4 → KX10_readOn_4 N σ25 Q x1 (x2 ||| (1 <<< ((σ23.1 245 49) &&& 31))) 0)))) ∧ (¬ (σ23.1 245 50) = 0 → EvM (N + 3) mX10_next [.ref 245] σ23 (fun r9 σ24 => r9 = none ∧ (((σ24.1 245 48) = 4 → KX10_readOn_4 N σ24 Q x1 (x2 ||| 0) 1) ∧ (¬ (σ24.1 245 48) = 4 → KX10_readOn_4 N σ24 Q x1 (x2 ||| 0) 0)))))))))) ∧ (¬ (σ17.1 245 50) = 0 → ((σ17.1 245 50) = 0 → EvM (N + 3) mX10_next [.ref 245] σ17 (fun r9 σ19 => r9 = none ∧ (((σ19.1 245 48) = 4 → KX10_readOn_4 N σ19 Q x1 (x2 ||| (1 <<< ((σ17.1 245 49) &&& 31))) 1) ∧ (¬ (σ19.1 245 48) = 4 → KX10_readOn_4 N σ19 Q x1 (x2 ||| (1 <<< ((σ17.1 245 49) &&& 31))) 0)))) ∧ (¬ (σ17.1 245 50) = 0 → EvM (N + 3) mX10_next [.ref 245] σ17 (fun r9 σ18 => r9 = none ∧ (((σ18.1 245 48) = 4 → KX10_readOn_4 N σ18 Q x1 (x2 ||| 0) 1) ∧ (¬ (σ18.1 245 48) = 4 → KX10_readOn_4 N σ18 Q x1 (x2 ||| 0) 0)))))))) ∧ (¬ (σ1.1 245 48) = 2 → EvM (N + 3) mX10_wants [.ref 245, .int 0, .int 2] σ1 (fun r9 σ2 => r9 = none ∧ (((σ2.1 245 50) = 0 → (x1 ≤ (σ2.1 245 49) → EvM (N + 3) mX10_wants [.ref 245, .int 0, .int 3] σ2 (fun r9 σ5 => r9 = none ∧ (((σ5.1 245 50) = 0 → EvM (N + 3) mX10_next [.ref 245] σ5 (fun r9 σ7 => r9 = none ∧ (((σ7.1 245 48) = 4 → KX10_readOn_4 N σ7 Q x1 (x2 ||| (1 <<< ((σ5.1 245 49) &&& 31))) 1) ∧ (¬ (σ7.1 245 48) = 4 → KX10_readOn_4 N σ7 Q x1 (x2 ||| (1 <<< ((σ5.1 245 49) &&& 31))) 0)))) ∧ (¬ (σ5.1 245 50) = 0 → EvM (N + 3) mX10_next [.ref 245] σ5 (fun r9 σ6 => r9 = none ∧ (((σ6.1 245 48) = 4 → KX10_readOn_4 N σ6 Q x1 (x2 ||| 0) 1) ∧ (¬ (σ6.1 245 48) = 4 → KX10_readOn_4 N σ6 Q x1 (x2 ||| 0) 0))))))) ∧ (¬ x1 ≤ (σ2.1 245 49) → vp_in (σ2.1 245 49) 20 ∧ (((σ2.1 280 (σ2.1 245 49).toNatClampNeg) = (-4) → (((x2 >>> ((σ2.1 245 49) &&& 31)) &&& 1) = 0 → EvM (N + 3) mX10_wants [.ref 245, .int 1, .int 3] σ2 (fun r9 σ14 => r9 = none ∧ (((σ14.1 245 50) = 0 → EvM (N + 3) mX10_next [.ref 245] σ14 (fun r9 σ16 => r9 = none ∧ (((σ16.1 245 48) = 4 → KX10_readOn_4 N σ16 Q x1 (x2 ||| (1 <<< ((σ14.1 245 49) &&& 31))) 1) ∧ (¬ (σ16.1 245 48) = 4 → KX10_readOn_4 N σ16 Q x1 (x2 ||| (1 <<< ((σ14.1 245 49) &&& 31))) 0)))) ∧ (¬ (σ14.1 245 50) = 0 → EvM (N + 3) mX10_next [.ref 245] σ14 (fun r9 σ15 => r9 = none ∧ (((σ15.1 245 48) = 4 → KX10_readOn_4 N σ15 Q x1 (x2 ||| 0) 1) ∧ (¬ (σ15.1 245 48) = 4 → KX10_readOn_4 N σ15 Q x1 (x2 ||| 0) 0))))))) ∧ (¬ ((x2 >>> ((σ2.1 245 49) &&& 31)) &&& 1) = 0 → EvM (N + 3) mX10_wants [.ref 245, .int 0, .int 3] σ2 (fun r9 σ11 => r9 = none ∧ (((σ11.1 245 50) = 0 → EvM (N + 3) mX10_next [.ref 245] σ11 (fun r9 σ13 => r9 = none ∧ (((σ13.1 245 48) = 4 → KX10_readOn_4 N σ13 Q x1 (x2 ||| (1 <<< ((σ11.1 245 49) &&& 31))) 1) ∧ (¬ (σ13.1 245 48) = 4 → KX10_readOn_4 N σ13 Q x1 (x2 ||| (1 <<< ((σ11.1 245 49) &&& 31))) 0)))) ∧ (¬ (σ11.1 245 50) = 0 → EvM (N + 3) mX10_next [.ref 245] σ11 (fun r9 σ12 => r9 = none ∧ (((σ12.1 245 48) = 4 → KX10_readOn_4 N σ12 Q x1 (x2 ||| 0) 1) ∧ (¬ (σ12.1 245 48) = 4 → KX10_readOn_4 N σ12 Q x1 (x2 ||| 0) 0)))))))) ∧ (¬ (σ2.1 280 (σ2.1 245 49).toNatClampNeg) = (-4) → EvM (N + 3) mX10_wants [.ref 245, .int 0, .int 3] σ2 (fun r9 σ8 => r9 = none ∧ (((σ8.1 245 50) = 0 → EvM (N + 3) mX10_next [.ref 245] σ8 (fun r9 σ10 => r9 = none ∧ (((σ10.1 245 48) = 4 → KX10_readOn_4 N σ10 Q x1 (x2 ||| (1 <<< ((σ8.1 245 49) &&& 31))) 1) ∧ (¬ (σ10.1 245 48) = 4 → KX10_readOn_4 N σ10 Q x1 (x2 ||| (1 <<< ((σ8.1 245 49) &&& 31))) 0)))) ∧ (¬ (σ8.1 245 50) = 0 → EvM (N + 3) mX10_next [.ref 245] σ8 (fun r9 σ9 => r9 = none ∧ (((σ9.1 245 48) = 4 → KX10_readOn_4 N σ9 Q x1 (x2 ||| 0) 1) ∧ (¬ (σ9.1 245 48) = 4 → KX10_readOn_4 N σ9 Q x1 (x2 ||| 0) 0)))))))))) ∧ (¬ (σ2.1 245 50) = 0 → ((σ2.1 245 50) = 0 → EvM (N + 3) mX10_next [.ref 245] σ2 (fun r9 σ4 => r9 = none ∧ (((σ4.1 245 48) = 4 → KX10_readOn_4 N σ4 Q x1 (x2 ||| (1 <<< ((σ2.1 245 49) &&& 31))) 1) ∧ (¬ (σ4.1 245 48) = 4 → KX10_readOn_4 N σ4 Q x1 (x2 ||| (1 <<< ((σ2.1 245 49) &&& 31))) 0)))) ∧ (¬ (σ2.1 245 50) = 0 → EvM (N + 3) mX10_next [.ref 245] σ2 (fun r9 σ3 => r9 = none ∧ (((σ3.1 245 48) = 4 → KX10_readOn_4 N σ3 Q x1 (x2 ||| 0) 1) ∧ (¬ (σ3.1 245 48) = 4 → KX10_readOn_4 N σ3 Q x1 (x2 ||| 0) 0))))))))))) ∧ (¬ (σ.1 245 50) = 0 → Q (some (.int x2)) σ))) : KX10_readOn_4 N σ Q x1 x2 x3 := by
  refine ev_iload_n 3 dX10_readOn_4 rfl ?_
  refine ev_if_eq 128 dX10_readOn_5 (by decide) (fun c9 => ?_) (fun c9 => ?_)
  · replace h := h.1 c9
    refine ev_iload_n 2 dX10_readOn_128 rfl ?_
    exact ev_iret rfl dX10_readOn_129 h
  · replace h := h.2 c9
    refine ev_aload_n 0 dX10_readOn_8 rfl ?_
    refine ev_get G10 lay_245 (k := 50) rfl (Nat.le_of_ble_eq_true rfl) dX10_readOn_9 w_1276 ?_
    refine ev_if_ne 128 dX10_readOn_12 (by decide) (fun c9 => ?_) (fun c9 => ?_)
    · replace h := h.2 c9
      refine ev_iload_n 2 dX10_readOn_128 rfl ?_
      exact ev_iret rfl dX10_readOn_129 h
    · replace h := h.1 c9
      refine ev_aload_n 0 dX10_readOn_15 rfl ?_
      refine ev_callV (M' := mX10_next) [] vX10_next G10 lay_245 dX10_readOn_16 w_1682 rfl rfl (Nat.le_of_ble_eq_true rfl) h ?_
      rintro r9 σ1 ⟨rfl, h⟩
      refine ev_aload_n 0 dX10_readOn_19 rfl ?_
      refine ev_aload_n 0 dX10_readOn_20 rfl ?_
      refine ev_get G10 lay_245 (k := 48) rfl (Nat.le_of_ble_eq_true rfl) dX10_readOn_21 w_1274 ?_
      refine ev_iconst 2 dX10_readOn_24 (by decide) ?_
      refine ev_icmp_ne 32 dX10_readOn_25 (by decide) (fun c9 => ?_) (fun c9 => ?_)
      · replace h := h.2 c9
        refine ev_iconst 0 dX10_readOn_32 (by decide) ?_
        refine ev_iconst 2 dX10_readOn_33 (by decide) ?_
        refine ev_callV (M' := mX10_wants) [.int 0, .int 2] vX10_wants G10 lay_245 dX10_readOn_34 w_1700 rfl rfl (Nat.le_of_ble_eq_true rfl) h ?_
        rintro r9 σ2 ⟨rfl, h⟩
        refine ev_aload_n 0 dX10_readOn_37 rfl ?_
        refine ev_get G10 lay_245 (k := 50) rfl (Nat.le_of_ble_eq_true rfl) dX10_readOn_38 w_1276 ?_
        refine ev_if_ne 87 dX10_readOn_41 (by decide) (fun c9 => ?_) (fun c9 => ?_)
        · replace h := h.2 c9
          refine ev_iload_n 2 dX10_readOn_87 rfl ?_
          refine ev_aload_n 0 dX10_readOn_88 rfl ?_
          refine ev_get G10 lay_245 (k := 50) rfl (Nat.le_of_ble_eq_true rfl) dX10_readOn_89 w_1276 ?_
          refine ev_if_ne 104 dX10_readOn_92 (by decide) (fun c9 => ?_) (fun c9 => ?_)
          · replace h := h.2 c9
            refine ev_iconst 0 dX10_readOn_104 (by decide) ?_
            refine ev_ior dX10_readOn_105 ?_
            refine ev_istore_n (lv' := [(2, .int (x2 ||| 0)), (0, .ref 245), (1, .int x1), (3, .int x3)]) dX10_readOn_106 (Nat.le_of_ble_eq_true rfl) rfl ?_
            refine ev_aload_n 1 dX10_readOn_107 rfl ?_
            refine ev_callV (M' := mX10_next) [] vX10_next G10 lay_245 dX10_readOn_108 w_1682 rfl rfl (Nat.le_of_ble_eq_true rfl) h ?_
            rintro r9 σ3 ⟨rfl, h⟩
            refine ev_aload_n 1 dX10_readOn_111 rfl ?_
            refine ev_get G10 lay_245 (k := 48) rfl (Nat.le_of_ble_eq_true rfl) dX10_readOn_112 w_1274 ?_
            refine ev_iconst 4 dX10_readOn_115 (by decide) ?_
            refine ev_icmp_ne 123 dX10_readOn_116 (by decide) (fun c9 => ?_) (fun c9 => ?_)
            · replace h := h.2 c9
              refine ev_iconst 0 dX10_readOn_123 (by decide) ?_
              refine ev_istore_n (lv' := [(3, .int 0), (2, .int (x2 ||| 0)), (0, .ref 245), (1, .int x1)]) dX10_readOn_124 (Nat.le_of_ble_eq_true rfl) rfl ?_
              refine ev_goto 4 dX10_readOn_125 (by decide) ?_
              refine ev_sub [2, 3, 1, 0] rfl ?_
              exact h
            · replace h := h.1 c9
              refine ev_iconst 1 dX10_readOn_119 (by decide) ?_
              refine ev_goto 124 dX10_readOn_120 (by decide) ?_
              refine ev_istore_n (lv' := [(3, .int 1), (2, .int (x2 ||| 0)), (0, .ref 245), (1, .int x1)]) dX10_readOn_124 (Nat.le_of_ble_eq_true rfl) rfl ?_
              refine ev_goto 4 dX10_readOn_125 (by decide) ?_
              refine ev_sub [2, 3, 1, 0] rfl ?_
              exact h
          · replace h := h.1 c9
            refine ev_iconst 1 dX10_readOn_95 (by decide) ?_
            refine ev_aload_n 0 dX10_readOn_96 rfl ?_
            refine ev_get G10 lay_245 (k := 49) rfl (Nat.le_of_ble_eq_true rfl) dX10_readOn_97 w_1275 ?_
            refine ev_ishl dX10_readOn_100 ?_
            refine ev_goto 105 dX10_readOn_101 (by decide) ?_
            refine ev_ior dX10_readOn_105 ?_
            refine ev_istore_n (lv' := [(2, .int (x2 ||| (1 <<< ((σ2.1 245 49) &&& 31)))), (0, .ref 245), (1, .int x1), (3, .int x3)]) dX10_readOn_106 (Nat.le_of_ble_eq_true rfl) rfl ?_
            refine ev_aload_n 1 dX10_readOn_107 rfl ?_
            refine ev_callV (M' := mX10_next) [] vX10_next G10 lay_245 dX10_readOn_108 w_1682 rfl rfl (Nat.le_of_ble_eq_true rfl) h ?_
            rintro r9 σ4 ⟨rfl, h⟩
            refine ev_aload_n 1 dX10_readOn_111 rfl ?_
            refine ev_get G10 lay_245 (k := 48) rfl (Nat.le_of_ble_eq_true rfl) dX10_readOn_112 w_1274 ?_
            refine ev_iconst 4 dX10_readOn_115 (by decide) ?_
            refine ev_icmp_ne 123 dX10_readOn_116 (by decide) (fun c9 => ?_) (fun c9 => ?_)
            · replace h := h.2 c9
              refine ev_iconst 0 dX10_readOn_123 (by decide) ?_
              refine ev_istore_n (lv' := [(3, .int 0), (2, .int (x2 ||| (1 <<< ((σ2.1 245 49) &&& 31)))), (0, .ref 245), (1, .int x1)]) dX10_readOn_124 (Nat.le_of_ble_eq_true rfl) rfl ?_
              refine ev_goto 4 dX10_readOn_125 (by decide) ?_
              refine ev_sub [2, 3, 1, 0] rfl ?_
              exact h
            · replace h := h.1 c9
              refine ev_iconst 1 dX10_readOn_119 (by decide) ?_
              refine ev_goto 124 dX10_readOn_120 (by decide) ?_
              refine ev_istore_n (lv' := [(3, .int 1), (2, .int (x2 ||| (1 <<< ((σ2.1 245 49) &&& 31)))), (0, .ref 245), (1, .int x1)]) dX10_readOn_124 (Nat.le_of_ble_eq_true rfl) rfl ?_
              refine ev_goto 4 dX10_readOn_125 (by decide) ?_
              refine ev_sub [2, 3, 1, 0] rfl ?_
              exact h
        · replace h := h.1 c9
          refine ev_aload_n 0 dX10_readOn_44 rfl ?_
          refine ev_aload_n 0 dX10_readOn_45 rfl ?_
          refine ev_get G10 lay_245 (k := 49) rfl (Nat.le_of_ble_eq_true rfl) dX10_readOn_46 w_1275 ?_
          refine ev_iload_n 1 dX10_readOn_49 rfl ?_
          refine ev_icmp_ge 82 dX10_readOn_50 (by decide) (fun c9 => ?_) (fun c9 => ?_)
          · replace h := h.1 c9
            refine ev_iconst 0 dX10_readOn_82 (by decide) ?_
            refine ev_iconst 3 dX10_readOn_83 (by decide) ?_
            refine ev_callV (M' := mX10_wants) [.int 0, .int 3] vX10_wants G10 lay_245 dX10_readOn_84 w_1700 rfl rfl (Nat.le_of_ble_eq_true rfl) h ?_
            rintro r9 σ5 ⟨rfl, h⟩
            refine ev_iload_n 2 dX10_readOn_87 rfl ?_
            refine ev_aload_n 0 dX10_readOn_88 rfl ?_
            refine ev_get G10 lay_245 (k := 50) rfl (Nat.le_of_ble_eq_true rfl) dX10_readOn_89 w_1276 ?_
            refine ev_if_ne 104 dX10_readOn_92 (by decide) (fun c9 => ?_) (fun c9 => ?_)
            · replace h := h.2 c9
              refine ev_iconst 0 dX10_readOn_104 (by decide) ?_
              refine ev_ior dX10_readOn_105 ?_
              refine ev_istore_n (lv' := [(2, .int (x2 ||| 0)), (0, .ref 245), (1, .int x1), (3, .int x3)]) dX10_readOn_106 (Nat.le_of_ble_eq_true rfl) rfl ?_
              refine ev_aload_n 1 dX10_readOn_107 rfl ?_
              refine ev_callV (M' := mX10_next) [] vX10_next G10 lay_245 dX10_readOn_108 w_1682 rfl rfl (Nat.le_of_ble_eq_true rfl) h ?_
              rintro r9 σ6 ⟨rfl, h⟩
              refine ev_aload_n 1 dX10_readOn_111 rfl ?_
              refine ev_get G10 lay_245 (k := 48) rfl (Nat.le_of_ble_eq_true rfl) dX10_readOn_112 w_1274 ?_
              refine ev_iconst 4 dX10_readOn_115 (by decide) ?_
              refine ev_icmp_ne 123 dX10_readOn_116 (by decide) (fun c9 => ?_) (fun c9 => ?_)
              · replace h := h.2 c9
                refine ev_iconst 0 dX10_readOn_123 (by decide) ?_
                refine ev_istore_n (lv' := [(3, .int 0), (2, .int (x2 ||| 0)), (0, .ref 245), (1, .int x1)]) dX10_readOn_124 (Nat.le_of_ble_eq_true rfl) rfl ?_
                refine ev_goto 4 dX10_readOn_125 (by decide) ?_
                refine ev_sub [2, 3, 1, 0] rfl ?_
                exact h
              · replace h := h.1 c9
                refine ev_iconst 1 dX10_readOn_119 (by decide) ?_
                refine ev_goto 124 dX10_readOn_120 (by decide) ?_
                refine ev_istore_n (lv' := [(3, .int 1), (2, .int (x2 ||| 0)), (0, .ref 245), (1, .int x1)]) dX10_readOn_124 (Nat.le_of_ble_eq_true rfl) rfl ?_
                refine ev_goto 4 dX10_readOn_125 (by decide) ?_
                refine ev_sub [2, 3, 1, 0] rfl ?_
                exact h
            · replace h := h.1 c9
              refine ev_iconst 1 dX10_readOn_95 (by decide) ?_
              refine ev_aload_n 0 dX10_readOn_96 rfl ?_
              refine ev_get G10 lay_245 (k := 49) rfl (Nat.le_of_ble_eq_true rfl) dX10_readOn_97 w_1275 ?_
              refine ev_ishl dX10_readOn_100 ?_
              refine ev_goto 105 dX10_readOn_101 (by decide) ?_
              refine ev_ior dX10_readOn_105 ?_
              refine ev_istore_n (lv' := [(2, .int (x2 ||| (1 <<< ((σ5.1 245 49) &&& 31)))), (0, .ref 245), (1, .int x1), (3, .int x3)]) dX10_readOn_106 (Nat.le_of_ble_eq_true rfl) rfl ?_
              refine ev_aload_n 1 dX10_readOn_107 rfl ?_
              refine ev_callV (M' := mX10_next) [] vX10_next G10 lay_245 dX10_readOn_108 w_1682 rfl rfl (Nat.le_of_ble_eq_true rfl) h ?_
              rintro r9 σ7 ⟨rfl, h⟩
              refine ev_aload_n 1 dX10_readOn_111 rfl ?_
              refine ev_get G10 lay_245 (k := 48) rfl (Nat.le_of_ble_eq_true rfl) dX10_readOn_112 w_1274 ?_
              refine ev_iconst 4 dX10_readOn_115 (by decide) ?_
              refine ev_icmp_ne 123 dX10_readOn_116 (by decide) (fun c9 => ?_) (fun c9 => ?_)
              · replace h := h.2 c9
                refine ev_iconst 0 dX10_readOn_123 (by decide) ?_
                refine ev_istore_n (lv' := [(3, .int 0), (2, .int (x2 ||| (1 <<< ((σ5.1 245 49) &&& 31)))), (0, .ref 245), (1, .int x1)]) dX10_readOn_124 (Nat.le_of_ble_eq_true rfl) rfl ?_
                refine ev_goto 4 dX10_readOn_125 (by decide) ?_
                refine ev_sub [2, 3, 1, 0] rfl ?_
                exact h
              · replace h := h.1 c9
                refine ev_iconst 1 dX10_readOn_119 (by decide) ?_
                refine ev_goto 124 dX10_readOn_120 (by decide) ?_
                refine ev_istore_n (lv' := [(3, .int 1), (2, .int (x2 ||| (1 <<< ((σ5.1 245 49) &&& 31)))), (0, .ref 245), (1, .int x1)]) dX10_readOn_124 (Nat.le_of_ble_eq_true rfl) rfl ?_
                refine ev_goto 4 dX10_readOn_125 (by decide) ?_
                refine ev_sub [2, 3, 1, 0] rfl ?_
                exact h
          · replace h := h.2 c9
            refine ev_aload_n 0 dX10_readOn_53 rfl ?_
            refine ev_getR (r := 280) G10 lay_245 (k := 56) rfl (Nat.le_of_ble_eq_true rfl) dX10_readOn_54 w_1282 ?_
            refine ev_aload_n 0 dX10_readOn_57 rfl ?_
            refine ev_get G10 lay_245 (k := 49) rfl (Nat.le_of_ble_eq_true rfl) dX10_readOn_58 w_1275 ?_
            have hb61 := h.1
            replace h := h.2
            refine ev_iald lay_280 (Nat.le_of_ble_eq_true rfl) hb61 dX10_readOn_61 ?_
            refine ev_bipush (-4) dX10_readOn_62 (by decide) ?_
            refine ev_icmp_ne 82 dX10_readOn_64 (by decide) (fun c9 => ?_) (fun c9 => ?_)
            · replace h := h.2 c9
              refine ev_iconst 0 dX10_readOn_82 (by decide) ?_
              refine ev_iconst 3 dX10_readOn_83 (by decide) ?_
              refine ev_callV (M' := mX10_wants) [.int 0, .int 3] vX10_wants G10 lay_245 dX10_readOn_84 w_1700 rfl rfl (Nat.le_of_ble_eq_true rfl) h ?_
              rintro r9 σ8 ⟨rfl, h⟩
              refine ev_iload_n 2 dX10_readOn_87 rfl ?_
              refine ev_aload_n 0 dX10_readOn_88 rfl ?_
              refine ev_get G10 lay_245 (k := 50) rfl (Nat.le_of_ble_eq_true rfl) dX10_readOn_89 w_1276 ?_
              refine ev_if_ne 104 dX10_readOn_92 (by decide) (fun c9 => ?_) (fun c9 => ?_)
              · replace h := h.2 c9
                refine ev_iconst 0 dX10_readOn_104 (by decide) ?_
                refine ev_ior dX10_readOn_105 ?_
                refine ev_istore_n (lv' := [(2, .int (x2 ||| 0)), (0, .ref 245), (1, .int x1), (3, .int x3)]) dX10_readOn_106 (Nat.le_of_ble_eq_true rfl) rfl ?_
                refine ev_aload_n 1 dX10_readOn_107 rfl ?_
                refine ev_callV (M' := mX10_next) [] vX10_next G10 lay_245 dX10_readOn_108 w_1682 rfl rfl (Nat.le_of_ble_eq_true rfl) h ?_
                rintro r9 σ9 ⟨rfl, h⟩
                refine ev_aload_n 1 dX10_readOn_111 rfl ?_
                refine ev_get G10 lay_245 (k := 48) rfl (Nat.le_of_ble_eq_true rfl) dX10_readOn_112 w_1274 ?_
                refine ev_iconst 4 dX10_readOn_115 (by decide) ?_
                refine ev_icmp_ne 123 dX10_readOn_116 (by decide) (fun c9 => ?_) (fun c9 => ?_)
                · replace h := h.2 c9
                  refine ev_iconst 0 dX10_readOn_123 (by decide) ?_
                  refine ev_istore_n (lv' := [(3, .int 0), (2, .int (x2 ||| 0)), (0, .ref 245), (1, .int x1)]) dX10_readOn_124 (Nat.le_of_ble_eq_true rfl) rfl ?_
                  refine ev_goto 4 dX10_readOn_125 (by decide) ?_
                  refine ev_sub [2, 3, 1, 0] rfl ?_
                  exact h
                · replace h := h.1 c9
                  refine ev_iconst 1 dX10_readOn_119 (by decide) ?_
                  refine ev_goto 124 dX10_readOn_120 (by decide) ?_
                  refine ev_istore_n (lv' := [(3, .int 1), (2, .int (x2 ||| 0)), (0, .ref 245), (1, .int x1)]) dX10_readOn_124 (Nat.le_of_ble_eq_true rfl) rfl ?_
                  refine ev_goto 4 dX10_readOn_125 (by decide) ?_
                  refine ev_sub [2, 3, 1, 0] rfl ?_
                  exact h
              · replace h := h.1 c9
                refine ev_iconst 1 dX10_readOn_95 (by decide) ?_
                refine ev_aload_n 0 dX10_readOn_96 rfl ?_
                refine ev_get G10 lay_245 (k := 49) rfl (Nat.le_of_ble_eq_true rfl) dX10_readOn_97 w_1275 ?_
                refine ev_ishl dX10_readOn_100 ?_
                refine ev_goto 105 dX10_readOn_101 (by decide) ?_
                refine ev_ior dX10_readOn_105 ?_
                refine ev_istore_n (lv' := [(2, .int (x2 ||| (1 <<< ((σ8.1 245 49) &&& 31)))), (0, .ref 245), (1, .int x1), (3, .int x3)]) dX10_readOn_106 (Nat.le_of_ble_eq_true rfl) rfl ?_
                refine ev_aload_n 1 dX10_readOn_107 rfl ?_
                refine ev_callV (M' := mX10_next) [] vX10_next G10 lay_245 dX10_readOn_108 w_1682 rfl rfl (Nat.le_of_ble_eq_true rfl) h ?_
                rintro r9 σ10 ⟨rfl, h⟩
                refine ev_aload_n 1 dX10_readOn_111 rfl ?_
                refine ev_get G10 lay_245 (k := 48) rfl (Nat.le_of_ble_eq_true rfl) dX10_readOn_112 w_1274 ?_
                refine ev_iconst 4 dX10_readOn_115 (by decide) ?_
                refine ev_icmp_ne 123 dX10_readOn_116 (by decide) (fun c9 => ?_) (fun c9 => ?_)
                · replace h := h.2 c9
                  refine ev_iconst 0 dX10_readOn_123 (by decide) ?_
                  refine ev_istore_n (lv' := [(3, .int 0), (2, .int (x2 ||| (1 <<< ((σ8.1 245 49) &&& 31)))), (0, .ref 245), (1, .int x1)]) dX10_readOn_124 (Nat.le_of_ble_eq_true rfl) rfl ?_
                  refine ev_goto 4 dX10_readOn_125 (by decide) ?_
                  refine ev_sub [2, 3, 1, 0] rfl ?_
                  exact h
                · replace h := h.1 c9
                  refine ev_iconst 1 dX10_readOn_119 (by decide) ?_
                  refine ev_goto 124 dX10_readOn_120 (by decide) ?_
                  refine ev_istore_n (lv' := [(3, .int 1), (2, .int (x2 ||| (1 <<< ((σ8.1 245 49) &&& 31)))), (0, .ref 245), (1, .int x1)]) dX10_readOn_124 (Nat.le_of_ble_eq_true rfl) rfl ?_
                  refine ev_goto 4 dX10_readOn_125 (by decide) ?_
                  refine ev_sub [2, 3, 1, 0] rfl ?_
                  exact h
            · replace h := h.1 c9
              refine ev_iload_n 2 dX10_readOn_67 rfl ?_
              refine ev_aload_n 0 dX10_readOn_68 rfl ?_
              refine ev_get G10 lay_245 (k := 49) rfl (Nat.le_of_ble_eq_true rfl) dX10_readOn_69 w_1275 ?_
              refine ev_ishr dX10_readOn_72 ?_
              refine ev_iconst 1 dX10_readOn_73 (by decide) ?_
              refine ev_iand dX10_readOn_74 ?_
              refine ev_if_ne 82 dX10_readOn_75 (by decide) (fun c9 => ?_) (fun c9 => ?_)
              · replace h := h.2 c9
                refine ev_iconst 0 dX10_readOn_82 (by decide) ?_
                refine ev_iconst 3 dX10_readOn_83 (by decide) ?_
                refine ev_callV (M' := mX10_wants) [.int 0, .int 3] vX10_wants G10 lay_245 dX10_readOn_84 w_1700 rfl rfl (Nat.le_of_ble_eq_true rfl) h ?_
                rintro r9 σ11 ⟨rfl, h⟩
                refine ev_iload_n 2 dX10_readOn_87 rfl ?_
                refine ev_aload_n 0 dX10_readOn_88 rfl ?_
                refine ev_get G10 lay_245 (k := 50) rfl (Nat.le_of_ble_eq_true rfl) dX10_readOn_89 w_1276 ?_
                refine ev_if_ne 104 dX10_readOn_92 (by decide) (fun c9 => ?_) (fun c9 => ?_)
                · replace h := h.2 c9
                  refine ev_iconst 0 dX10_readOn_104 (by decide) ?_
                  refine ev_ior dX10_readOn_105 ?_
                  refine ev_istore_n (lv' := [(2, .int (x2 ||| 0)), (0, .ref 245), (1, .int x1), (3, .int x3)]) dX10_readOn_106 (Nat.le_of_ble_eq_true rfl) rfl ?_
                  refine ev_aload_n 1 dX10_readOn_107 rfl ?_
                  refine ev_callV (M' := mX10_next) [] vX10_next G10 lay_245 dX10_readOn_108 w_1682 rfl rfl (Nat.le_of_ble_eq_true rfl) h ?_
                  rintro r9 σ12 ⟨rfl, h⟩
                  refine ev_aload_n 1 dX10_readOn_111 rfl ?_
                  refine ev_get G10 lay_245 (k := 48) rfl (Nat.le_of_ble_eq_true rfl) dX10_readOn_112 w_1274 ?_
                  refine ev_iconst 4 dX10_readOn_115 (by decide) ?_
                  refine ev_icmp_ne 123 dX10_readOn_116 (by decide) (fun c9 => ?_) (fun c9 => ?_)
                  · replace h := h.2 c9
                    refine ev_iconst 0 dX10_readOn_123 (by decide) ?_
                    refine ev_istore_n (lv' := [(3, .int 0), (2, .int (x2 ||| 0)), (0, .ref 245), (1, .int x1)]) dX10_readOn_124 (Nat.le_of_ble_eq_true rfl) rfl ?_
                    refine ev_goto 4 dX10_readOn_125 (by decide) ?_
                    refine ev_sub [2, 3, 1, 0] rfl ?_
                    exact h
                  · replace h := h.1 c9
                    refine ev_iconst 1 dX10_readOn_119 (by decide) ?_
                    refine ev_goto 124 dX10_readOn_120 (by decide) ?_
                    refine ev_istore_n (lv' := [(3, .int 1), (2, .int (x2 ||| 0)), (0, .ref 245), (1, .int x1)]) dX10_readOn_124 (Nat.le_of_ble_eq_true rfl) rfl ?_
                    refine ev_goto 4 dX10_readOn_125 (by decide) ?_
                    refine ev_sub [2, 3, 1, 0] rfl ?_
                    exact h
                · replace h := h.1 c9
                  refine ev_iconst 1 dX10_readOn_95 (by decide) ?_
                  refine ev_aload_n 0 dX10_readOn_96 rfl ?_
                  refine ev_get G10 lay_245 (k := 49) rfl (Nat.le_of_ble_eq_true rfl) dX10_readOn_97 w_1275 ?_
                  refine ev_ishl dX10_readOn_100 ?_
                  refine ev_goto 105 dX10_readOn_101 (by decide) ?_
                  refine ev_ior dX10_readOn_105 ?_
                  refine ev_istore_n (lv' := [(2, .int (x2 ||| (1 <<< ((σ11.1 245 49) &&& 31)))), (0, .ref 245), (1, .int x1), (3, .int x3)]) dX10_readOn_106 (Nat.le_of_ble_eq_true rfl) rfl ?_
                  refine ev_aload_n 1 dX10_readOn_107 rfl ?_
                  refine ev_callV (M' := mX10_next) [] vX10_next G10 lay_245 dX10_readOn_108 w_1682 rfl rfl (Nat.le_of_ble_eq_true rfl) h ?_
                  rintro r9 σ13 ⟨rfl, h⟩
                  refine ev_aload_n 1 dX10_readOn_111 rfl ?_
                  refine ev_get G10 lay_245 (k := 48) rfl (Nat.le_of_ble_eq_true rfl) dX10_readOn_112 w_1274 ?_
                  refine ev_iconst 4 dX10_readOn_115 (by decide) ?_
                  refine ev_icmp_ne 123 dX10_readOn_116 (by decide) (fun c9 => ?_) (fun c9 => ?_)
                  · replace h := h.2 c9
                    refine ev_iconst 0 dX10_readOn_123 (by decide) ?_
                    refine ev_istore_n (lv' := [(3, .int 0), (2, .int (x2 ||| (1 <<< ((σ11.1 245 49) &&& 31)))), (0, .ref 245), (1, .int x1)]) dX10_readOn_124 (Nat.le_of_ble_eq_true rfl) rfl ?_
                    refine ev_goto 4 dX10_readOn_125 (by decide) ?_
                    refine ev_sub [2, 3, 1, 0] rfl ?_
                    exact h
                  · replace h := h.1 c9
                    refine ev_iconst 1 dX10_readOn_119 (by decide) ?_
                    refine ev_goto 124 dX10_readOn_120 (by decide) ?_
                    refine ev_istore_n (lv' := [(3, .int 1), (2, .int (x2 ||| (1 <<< ((σ11.1 245 49) &&& 31)))), (0, .ref 245), (1, .int x1)]) dX10_readOn_124 (Nat.le_of_ble_eq_true rfl) rfl ?_
                    refine ev_goto 4 dX10_readOn_125 (by decide) ?_
                    refine ev_sub [2, 3, 1, 0] rfl ?_
                    exact h
              · replace h := h.1 c9
                refine ev_iconst 1 dX10_readOn_78 (by decide) ?_
                refine ev_goto 83 dX10_readOn_79 (by decide) ?_
                refine ev_iconst 3 dX10_readOn_83 (by decide) ?_
                refine ev_callV (M' := mX10_wants) [.int 1, .int 3] vX10_wants G10 lay_245 dX10_readOn_84 w_1700 rfl rfl (Nat.le_of_ble_eq_true rfl) h ?_
                rintro r9 σ14 ⟨rfl, h⟩
                refine ev_iload_n 2 dX10_readOn_87 rfl ?_
                refine ev_aload_n 0 dX10_readOn_88 rfl ?_
                refine ev_get G10 lay_245 (k := 50) rfl (Nat.le_of_ble_eq_true rfl) dX10_readOn_89 w_1276 ?_
                refine ev_if_ne 104 dX10_readOn_92 (by decide) (fun c9 => ?_) (fun c9 => ?_)
                · replace h := h.2 c9
                  refine ev_iconst 0 dX10_readOn_104 (by decide) ?_
                  refine ev_ior dX10_readOn_105 ?_
                  refine ev_istore_n (lv' := [(2, .int (x2 ||| 0)), (0, .ref 245), (1, .int x1), (3, .int x3)]) dX10_readOn_106 (Nat.le_of_ble_eq_true rfl) rfl ?_
                  refine ev_aload_n 1 dX10_readOn_107 rfl ?_
                  refine ev_callV (M' := mX10_next) [] vX10_next G10 lay_245 dX10_readOn_108 w_1682 rfl rfl (Nat.le_of_ble_eq_true rfl) h ?_
                  rintro r9 σ15 ⟨rfl, h⟩
                  refine ev_aload_n 1 dX10_readOn_111 rfl ?_
                  refine ev_get G10 lay_245 (k := 48) rfl (Nat.le_of_ble_eq_true rfl) dX10_readOn_112 w_1274 ?_
                  refine ev_iconst 4 dX10_readOn_115 (by decide) ?_
                  refine ev_icmp_ne 123 dX10_readOn_116 (by decide) (fun c9 => ?_) (fun c9 => ?_)
                  · replace h := h.2 c9
                    refine ev_iconst 0 dX10_readOn_123 (by decide) ?_
                    refine ev_istore_n (lv' := [(3, .int 0), (2, .int (x2 ||| 0)), (0, .ref 245), (1, .int x1)]) dX10_readOn_124 (Nat.le_of_ble_eq_true rfl) rfl ?_
                    refine ev_goto 4 dX10_readOn_125 (by decide) ?_
                    refine ev_sub [2, 3, 1, 0] rfl ?_
                    exact h
                  · replace h := h.1 c9
                    refine ev_iconst 1 dX10_readOn_119 (by decide) ?_
                    refine ev_goto 124 dX10_readOn_120 (by decide) ?_
                    refine ev_istore_n (lv' := [(3, .int 1), (2, .int (x2 ||| 0)), (0, .ref 245), (1, .int x1)]) dX10_readOn_124 (Nat.le_of_ble_eq_true rfl) rfl ?_
                    refine ev_goto 4 dX10_readOn_125 (by decide) ?_
                    refine ev_sub [2, 3, 1, 0] rfl ?_
                    exact h
                · replace h := h.1 c9
                  refine ev_iconst 1 dX10_readOn_95 (by decide) ?_
                  refine ev_aload_n 0 dX10_readOn_96 rfl ?_
                  refine ev_get G10 lay_245 (k := 49) rfl (Nat.le_of_ble_eq_true rfl) dX10_readOn_97 w_1275 ?_
                  refine ev_ishl dX10_readOn_100 ?_
                  refine ev_goto 105 dX10_readOn_101 (by decide) ?_
                  refine ev_ior dX10_readOn_105 ?_
                  refine ev_istore_n (lv' := [(2, .int (x2 ||| (1 <<< ((σ14.1 245 49) &&& 31)))), (0, .ref 245), (1, .int x1), (3, .int x3)]) dX10_readOn_106 (Nat.le_of_ble_eq_true rfl) rfl ?_
                  refine ev_aload_n 1 dX10_readOn_107 rfl ?_
                  refine ev_callV (M' := mX10_next) [] vX10_next G10 lay_245 dX10_readOn_108 w_1682 rfl rfl (Nat.le_of_ble_eq_true rfl) h ?_
                  rintro r9 σ16 ⟨rfl, h⟩
                  refine ev_aload_n 1 dX10_readOn_111 rfl ?_
                  refine ev_get G10 lay_245 (k := 48) rfl (Nat.le_of_ble_eq_true rfl) dX10_readOn_112 w_1274 ?_
                  refine ev_iconst 4 dX10_readOn_115 (by decide) ?_
                  refine ev_icmp_ne 123 dX10_readOn_116 (by decide) (fun c9 => ?_) (fun c9 => ?_)
                  · replace h := h.2 c9
                    refine ev_iconst 0 dX10_readOn_123 (by decide) ?_
                    refine ev_istore_n (lv' := [(3, .int 0), (2, .int (x2 ||| (1 <<< ((σ14.1 245 49) &&& 31)))), (0, .ref 245), (1, .int x1)]) dX10_readOn_124 (Nat.le_of_ble_eq_true rfl) rfl ?_
                    refine ev_goto 4 dX10_readOn_125 (by decide) ?_
                    refine ev_sub [2, 3, 1, 0] rfl ?_
                    exact h
                  · replace h := h.1 c9
                    refine ev_iconst 1 dX10_readOn_119 (by decide) ?_
                    refine ev_goto 124 dX10_readOn_120 (by decide) ?_
                    refine ev_istore_n (lv' := [(3, .int 1), (2, .int (x2 ||| (1 <<< ((σ14.1 245 49) &&& 31)))), (0, .ref 245), (1, .int x1)]) dX10_readOn_124 (Nat.le_of_ble_eq_true rfl) rfl ?_
                    refine ev_goto 4 dX10_readOn_125 (by decide) ?_
                    refine ev_sub [2, 3, 1, 0] rfl ?_
                    exact h
      · replace h := h.1 c9
        refine ev_iconst 1 dX10_readOn_28 (by decide) ?_
        refine ev_goto 33 dX10_readOn_29 (by decide) ?_
        refine ev_iconst 2 dX10_readOn_33 (by decide) ?_
        refine ev_callV (M' := mX10_wants) [.int 1, .int 2] vX10_wants G10 lay_245 dX10_readOn_34 w_1700 rfl rfl (Nat.le_of_ble_eq_true rfl) h ?_
        rintro r9 σ17 ⟨rfl, h⟩
        refine ev_aload_n 0 dX10_readOn_37 rfl ?_
        refine ev_get G10 lay_245 (k := 50) rfl (Nat.le_of_ble_eq_true rfl) dX10_readOn_38 w_1276 ?_
        refine ev_if_ne 87 dX10_readOn_41 (by decide) (fun c9 => ?_) (fun c9 => ?_)
        · replace h := h.2 c9
          refine ev_iload_n 2 dX10_readOn_87 rfl ?_
          refine ev_aload_n 0 dX10_readOn_88 rfl ?_
          refine ev_get G10 lay_245 (k := 50) rfl (Nat.le_of_ble_eq_true rfl) dX10_readOn_89 w_1276 ?_
          refine ev_if_ne 104 dX10_readOn_92 (by decide) (fun c9 => ?_) (fun c9 => ?_)
          · replace h := h.2 c9
            refine ev_iconst 0 dX10_readOn_104 (by decide) ?_
            refine ev_ior dX10_readOn_105 ?_
            refine ev_istore_n (lv' := [(2, .int (x2 ||| 0)), (0, .ref 245), (1, .int x1), (3, .int x3)]) dX10_readOn_106 (Nat.le_of_ble_eq_true rfl) rfl ?_
            refine ev_aload_n 1 dX10_readOn_107 rfl ?_
            refine ev_callV (M' := mX10_next) [] vX10_next G10 lay_245 dX10_readOn_108 w_1682 rfl rfl (Nat.le_of_ble_eq_true rfl) h ?_
            rintro r9 σ18 ⟨rfl, h⟩
            refine ev_aload_n 1 dX10_readOn_111 rfl ?_
            refine ev_get G10 lay_245 (k := 48) rfl (Nat.le_of_ble_eq_true rfl) dX10_readOn_112 w_1274 ?_
            refine ev_iconst 4 dX10_readOn_115 (by decide) ?_
            refine ev_icmp_ne 123 dX10_readOn_116 (by decide) (fun c9 => ?_) (fun c9 => ?_)
            · replace h := h.2 c9
              refine ev_iconst 0 dX10_readOn_123 (by decide) ?_
              refine ev_istore_n (lv' := [(3, .int 0), (2, .int (x2 ||| 0)), (0, .ref 245), (1, .int x1)]) dX10_readOn_124 (Nat.le_of_ble_eq_true rfl) rfl ?_
              refine ev_goto 4 dX10_readOn_125 (by decide) ?_
              refine ev_sub [2, 3, 1, 0] rfl ?_
              exact h
            · replace h := h.1 c9
              refine ev_iconst 1 dX10_readOn_119 (by decide) ?_
              refine ev_goto 124 dX10_readOn_120 (by decide) ?_
              refine ev_istore_n (lv' := [(3, .int 1), (2, .int (x2 ||| 0)), (0, .ref 245), (1, .int x1)]) dX10_readOn_124 (Nat.le_of_ble_eq_true rfl) rfl ?_
              refine ev_goto 4 dX10_readOn_125 (by decide) ?_
              refine ev_sub [2, 3, 1, 0] rfl ?_
              exact h
          · replace h := h.1 c9
            refine ev_iconst 1 dX10_readOn_95 (by decide) ?_
            refine ev_aload_n 0 dX10_readOn_96 rfl ?_
            refine ev_get G10 lay_245 (k := 49) rfl (Nat.le_of_ble_eq_true rfl) dX10_readOn_97 w_1275 ?_
            refine ev_ishl dX10_readOn_100 ?_
            refine ev_goto 105 dX10_readOn_101 (by decide) ?_
            refine ev_ior dX10_readOn_105 ?_
            refine ev_istore_n (lv' := [(2, .int (x2 ||| (1 <<< ((σ17.1 245 49) &&& 31)))), (0, .ref 245), (1, .int x1), (3, .int x3)]) dX10_readOn_106 (Nat.le_of_ble_eq_true rfl) rfl ?_
            refine ev_aload_n 1 dX10_readOn_107 rfl ?_
            refine ev_callV (M' := mX10_next) [] vX10_next G10 lay_245 dX10_readOn_108 w_1682 rfl rfl (Nat.le_of_ble_eq_true rfl) h ?_
            rintro r9 σ19 ⟨rfl, h⟩
            refine ev_aload_n 1 dX10_readOn_111 rfl ?_
            refine ev_get G10 lay_245 (k := 48) rfl (Nat.le_of_ble_eq_true rfl) dX10_readOn_112 w_1274 ?_
            refine ev_iconst 4 dX10_readOn_115 (by decide) ?_
            refine ev_icmp_ne 123 dX10_readOn_116 (by decide) (fun c9 => ?_) (fun c9 => ?_)
            · replace h := h.2 c9
              refine ev_iconst 0 dX10_readOn_123 (by decide) ?_
              refine ev_istore_n (lv' := [(3, .int 0), (2, .int (x2 ||| (1 <<< ((σ17.1 245 49) &&& 31)))), (0, .ref 245), (1, .int x1)]) dX10_readOn_124 (Nat.le_of_ble_eq_true rfl) rfl ?_
              refine ev_goto 4 dX10_readOn_125 (by decide) ?_
              refine ev_sub [2, 3, 1, 0] rfl ?_
              exact h
            · replace h := h.1 c9
              refine ev_iconst 1 dX10_readOn_119 (by decide) ?_
              refine ev_goto 124 dX10_readOn_120 (by decide) ?_
              refine ev_istore_n (lv' := [(3, .int 1), (2, .int (x2 ||| (1 <<< ((σ17.1 245 49) &&& 31)))), (0, .ref 245), (1, .int x1)]) dX10_readOn_124 (Nat.le_of_ble_eq_true rfl) rfl ?_
              refine ev_goto 4 dX10_readOn_125 (by decide) ?_
              refine ev_sub [2, 3, 1, 0] rfl ?_
              exact h
        · replace h := h.1 c9
          refine ev_aload_n 0 dX10_readOn_44 rfl ?_
          refine ev_aload_n 0 dX10_readOn_45 rfl ?_
          refine ev_get G10 lay_245 (k := 49) rfl (Nat.le_of_ble_eq_true rfl) dX10_readOn_46 w_1275 ?_
          refine ev_iload_n 1 dX10_readOn_49 rfl ?_
          refine ev_icmp_ge 82 dX10_readOn_50 (by decide) (fun c9 => ?_) (fun c9 => ?_)
          · replace h := h.1 c9
            refine ev_iconst 0 dX10_readOn_82 (by decide) ?_
            refine ev_iconst 3 dX10_readOn_83 (by decide) ?_
            refine ev_callV (M' := mX10_wants) [.int 0, .int 3] vX10_wants G10 lay_245 dX10_readOn_84 w_1700 rfl rfl (Nat.le_of_ble_eq_true rfl) h ?_
            rintro r9 σ20 ⟨rfl, h⟩
            refine ev_iload_n 2 dX10_readOn_87 rfl ?_
            refine ev_aload_n 0 dX10_readOn_88 rfl ?_
            refine ev_get G10 lay_245 (k := 50) rfl (Nat.le_of_ble_eq_true rfl) dX10_readOn_89 w_1276 ?_
            refine ev_if_ne 104 dX10_readOn_92 (by decide) (fun c9 => ?_) (fun c9 => ?_)
            · replace h := h.2 c9
              refine ev_iconst 0 dX10_readOn_104 (by decide) ?_
              refine ev_ior dX10_readOn_105 ?_
              refine ev_istore_n (lv' := [(2, .int (x2 ||| 0)), (0, .ref 245), (1, .int x1), (3, .int x3)]) dX10_readOn_106 (Nat.le_of_ble_eq_true rfl) rfl ?_
              refine ev_aload_n 1 dX10_readOn_107 rfl ?_
              refine ev_callV (M' := mX10_next) [] vX10_next G10 lay_245 dX10_readOn_108 w_1682 rfl rfl (Nat.le_of_ble_eq_true rfl) h ?_
              rintro r9 σ21 ⟨rfl, h⟩
              refine ev_aload_n 1 dX10_readOn_111 rfl ?_
              refine ev_get G10 lay_245 (k := 48) rfl (Nat.le_of_ble_eq_true rfl) dX10_readOn_112 w_1274 ?_
              refine ev_iconst 4 dX10_readOn_115 (by decide) ?_
              refine ev_icmp_ne 123 dX10_readOn_116 (by decide) (fun c9 => ?_) (fun c9 => ?_)
              · replace h := h.2 c9
                refine ev_iconst 0 dX10_readOn_123 (by decide) ?_
                refine ev_istore_n (lv' := [(3, .int 0), (2, .int (x2 ||| 0)), (0, .ref 245), (1, .int x1)]) dX10_readOn_124 (Nat.le_of_ble_eq_true rfl) rfl ?_
                refine ev_goto 4 dX10_readOn_125 (by decide) ?_
                refine ev_sub [2, 3, 1, 0] rfl ?_
                exact h
              · replace h := h.1 c9
                refine ev_iconst 1 dX10_readOn_119 (by decide) ?_
                refine ev_goto 124 dX10_readOn_120 (by decide) ?_
                refine ev_istore_n (lv' := [(3, .int 1), (2, .int (x2 ||| 0)), (0, .ref 245), (1, .int x1)]) dX10_readOn_124 (Nat.le_of_ble_eq_true rfl) rfl ?_
                refine ev_goto 4 dX10_readOn_125 (by decide) ?_
                refine ev_sub [2, 3, 1, 0] rfl ?_
                exact h
            · replace h := h.1 c9
              refine ev_iconst 1 dX10_readOn_95 (by decide) ?_
              refine ev_aload_n 0 dX10_readOn_96 rfl ?_
              refine ev_get G10 lay_245 (k := 49) rfl (Nat.le_of_ble_eq_true rfl) dX10_readOn_97 w_1275 ?_
              refine ev_ishl dX10_readOn_100 ?_
              refine ev_goto 105 dX10_readOn_101 (by decide) ?_
              refine ev_ior dX10_readOn_105 ?_
              refine ev_istore_n (lv' := [(2, .int (x2 ||| (1 <<< ((σ20.1 245 49) &&& 31)))), (0, .ref 245), (1, .int x1), (3, .int x3)]) dX10_readOn_106 (Nat.le_of_ble_eq_true rfl) rfl ?_
              refine ev_aload_n 1 dX10_readOn_107 rfl ?_
              refine ev_callV (M' := mX10_next) [] vX10_next G10 lay_245 dX10_readOn_108 w_1682 rfl rfl (Nat.le_of_ble_eq_true rfl) h ?_
              rintro r9 σ22 ⟨rfl, h⟩
              refine ev_aload_n 1 dX10_readOn_111 rfl ?_
              refine ev_get G10 lay_245 (k := 48) rfl (Nat.le_of_ble_eq_true rfl) dX10_readOn_112 w_1274 ?_
              refine ev_iconst 4 dX10_readOn_115 (by decide) ?_
              refine ev_icmp_ne 123 dX10_readOn_116 (by decide) (fun c9 => ?_) (fun c9 => ?_)
              · replace h := h.2 c9
                refine ev_iconst 0 dX10_readOn_123 (by decide) ?_
                refine ev_istore_n (lv' := [(3, .int 0), (2, .int (x2 ||| (1 <<< ((σ20.1 245 49) &&& 31)))), (0, .ref 245), (1, .int x1)]) dX10_readOn_124 (Nat.le_of_ble_eq_true rfl) rfl ?_
                refine ev_goto 4 dX10_readOn_125 (by decide) ?_
                refine ev_sub [2, 3, 1, 0] rfl ?_
                exact h
              · replace h := h.1 c9
                refine ev_iconst 1 dX10_readOn_119 (by decide) ?_
                refine ev_goto 124 dX10_readOn_120 (by decide) ?_
                refine ev_istore_n (lv' := [(3, .int 1), (2, .int (x2 ||| (1 <<< ((σ20.1 245 49) &&& 31)))), (0, .ref 245), (1, .int x1)]) dX10_readOn_124 (Nat.le_of_ble_eq_true rfl) rfl ?_
                refine ev_goto 4 dX10_readOn_125 (by decide) ?_
                refine ev_sub [2, 3, 1, 0] rfl ?_
                exact h
          · replace h := h.2 c9
            refine ev_aload_n 0 dX10_readOn_53 rfl ?_
            refine ev_getR (r := 280) G10 lay_245 (k := 56) rfl (Nat.le_of_ble_eq_true rfl) dX10_readOn_54 w_1282 ?_
            refine ev_aload_n 0 dX10_readOn_57 rfl ?_
            refine ev_get G10 lay_245 (k := 49) rfl (Nat.le_of_ble_eq_true rfl) dX10_readOn_58 w_1275 ?_
            have hb61 := h.1
            replace h := h.2
            refine ev_iald lay_280 (Nat.le_of_ble_eq_true rfl) hb61 dX10_readOn_61 ?_
            refine ev_bipush (-4) dX10_readOn_62 (by decide) ?_
            refine ev_icmp_ne 82 dX10_readOn_64 (by decide) (fun c9 => ?_) (fun c9 => ?_)
            · replace h := h.2 c9
              refine ev_iconst 0 dX10_readOn_82 (by decide) ?_
              refine ev_iconst 3 dX10_readOn_83 (by decide) ?_
              refine ev_callV (M' := mX10_wants) [.int 0, .int 3] vX10_wants G10 lay_245 dX10_readOn_84 w_1700 rfl rfl (Nat.le_of_ble_eq_true rfl) h ?_
              rintro r9 σ23 ⟨rfl, h⟩
              refine ev_iload_n 2 dX10_readOn_87 rfl ?_
              refine ev_aload_n 0 dX10_readOn_88 rfl ?_
              refine ev_get G10 lay_245 (k := 50) rfl (Nat.le_of_ble_eq_true rfl) dX10_readOn_89 w_1276 ?_
              refine ev_if_ne 104 dX10_readOn_92 (by decide) (fun c9 => ?_) (fun c9 => ?_)
              · replace h := h.2 c9
                refine ev_iconst 0 dX10_readOn_104 (by decide) ?_
                refine ev_ior dX10_readOn_105 ?_
                refine ev_istore_n (lv' := [(2, .int (x2 ||| 0)), (0, .ref 245), (1, .int x1), (3, .int x3)]) dX10_readOn_106 (Nat.le_of_ble_eq_true rfl) rfl ?_
                refine ev_aload_n 1 dX10_readOn_107 rfl ?_
                refine ev_callV (M' := mX10_next) [] vX10_next G10 lay_245 dX10_readOn_108 w_1682 rfl rfl (Nat.le_of_ble_eq_true rfl) h ?_
                rintro r9 σ24 ⟨rfl, h⟩
                refine ev_aload_n 1 dX10_readOn_111 rfl ?_
                refine ev_get G10 lay_245 (k := 48) rfl (Nat.le_of_ble_eq_true rfl) dX10_readOn_112 w_1274 ?_
                refine ev_iconst 4 dX10_readOn_115 (by decide) ?_
                refine ev_icmp_ne 123 dX10_readOn_116 (by decide) (fun c9 => ?_) (fun c9 => ?_)
                · replace h := h.2 c9
                  refine ev_iconst 0 dX10_readOn_123 (by decide) ?_
                  refine ev_istore_n (lv' := [(3, .int 0), (2, .int (x2 ||| 0)), (0, .ref 245), (1, .int x1)]) dX10_readOn_124 (Nat.le_of_ble_eq_true rfl) rfl ?_
                  refine ev_goto 4 dX10_readOn_125 (by decide) ?_
                  refine ev_sub [2, 3, 1, 0] rfl ?_
                  exact h
                · replace h := h.1 c9
                  refine ev_iconst 1 dX10_readOn_119 (by decide) ?_
                  refine ev_goto 124 dX10_readOn_120 (by decide) ?_
                  refine ev_istore_n (lv' := [(3, .int 1), (2, .int (x2 ||| 0)), (0, .ref 245), (1, .int x1)]) dX10_readOn_124 (Nat.le_of_ble_eq_true rfl) rfl ?_
                  refine ev_goto 4 dX10_readOn_125 (by decide) ?_
                  refine ev_sub [2, 3, 1, 0] rfl ?_
                  exact h
              · replace h := h.1 c9
                refine ev_iconst 1 dX10_readOn_95 (by decide) ?_
                refine ev_aload_n 0 dX10_readOn_96 rfl ?_
                refine ev_get G10 lay_245 (k := 49) rfl (Nat.le_of_ble_eq_true rfl) dX10_readOn_97 w_1275 ?_
                refine ev_ishl dX10_readOn_100 ?_
                refine ev_goto 105 dX10_readOn_101 (by decide) ?_
                refine ev_ior dX10_readOn_105 ?_
                refine ev_istore_n (lv' := [(2, .int (x2 ||| (1 <<< ((σ23.1 245 49) &&& 31)))), (0, .ref 245), (1, .int x1), (3, .int x3)]) dX10_readOn_106 (Nat.le_of_ble_eq_true rfl) rfl ?_
                refine ev_aload_n 1 dX10_readOn_107 rfl ?_
                refine ev_callV (M' := mX10_next) [] vX10_next G10 lay_245 dX10_readOn_108 w_1682 rfl rfl (Nat.le_of_ble_eq_true rfl) h ?_
                rintro r9 σ25 ⟨rfl, h⟩
                refine ev_aload_n 1 dX10_readOn_111 rfl ?_
                refine ev_get G10 lay_245 (k := 48) rfl (Nat.le_of_ble_eq_true rfl) dX10_readOn_112 w_1274 ?_
                refine ev_iconst 4 dX10_readOn_115 (by decide) ?_
                refine ev_icmp_ne 123 dX10_readOn_116 (by decide) (fun c9 => ?_) (fun c9 => ?_)
                · replace h := h.2 c9
                  refine ev_iconst 0 dX10_readOn_123 (by decide) ?_
                  refine ev_istore_n (lv' := [(3, .int 0), (2, .int (x2 ||| (1 <<< ((σ23.1 245 49) &&& 31)))), (0, .ref 245), (1, .int x1)]) dX10_readOn_124 (Nat.le_of_ble_eq_true rfl) rfl ?_
                  refine ev_goto 4 dX10_readOn_125 (by decide) ?_
                  refine ev_sub [2, 3, 1, 0] rfl ?_
                  exact h
                · replace h := h.1 c9
                  refine ev_iconst 1 dX10_readOn_119 (by decide) ?_
                  refine ev_goto 124 dX10_readOn_120 (by decide) ?_
                  refine ev_istore_n (lv' := [(3, .int 1), (2, .int (x2 ||| (1 <<< ((σ23.1 245 49) &&& 31)))), (0, .ref 245), (1, .int x1)]) dX10_readOn_124 (Nat.le_of_ble_eq_true rfl) rfl ?_
                  refine ev_goto 4 dX10_readOn_125 (by decide) ?_
                  refine ev_sub [2, 3, 1, 0] rfl ?_
                  exact h
            · replace h := h.1 c9
              refine ev_iload_n 2 dX10_readOn_67 rfl ?_
              refine ev_aload_n 0 dX10_readOn_68 rfl ?_
              refine ev_get G10 lay_245 (k := 49) rfl (Nat.le_of_ble_eq_true rfl) dX10_readOn_69 w_1275 ?_
              refine ev_ishr dX10_readOn_72 ?_
              refine ev_iconst 1 dX10_readOn_73 (by decide) ?_
              refine ev_iand dX10_readOn_74 ?_
              refine ev_if_ne 82 dX10_readOn_75 (by decide) (fun c9 => ?_) (fun c9 => ?_)
              · replace h := h.2 c9
                refine ev_iconst 0 dX10_readOn_82 (by decide) ?_
                refine ev_iconst 3 dX10_readOn_83 (by decide) ?_
                refine ev_callV (M' := mX10_wants) [.int 0, .int 3] vX10_wants G10 lay_245 dX10_readOn_84 w_1700 rfl rfl (Nat.le_of_ble_eq_true rfl) h ?_
                rintro r9 σ26 ⟨rfl, h⟩
                refine ev_iload_n 2 dX10_readOn_87 rfl ?_
                refine ev_aload_n 0 dX10_readOn_88 rfl ?_
                refine ev_get G10 lay_245 (k := 50) rfl (Nat.le_of_ble_eq_true rfl) dX10_readOn_89 w_1276 ?_
                refine ev_if_ne 104 dX10_readOn_92 (by decide) (fun c9 => ?_) (fun c9 => ?_)
                · replace h := h.2 c9
                  refine ev_iconst 0 dX10_readOn_104 (by decide) ?_
                  refine ev_ior dX10_readOn_105 ?_
                  refine ev_istore_n (lv' := [(2, .int (x2 ||| 0)), (0, .ref 245), (1, .int x1), (3, .int x3)]) dX10_readOn_106 (Nat.le_of_ble_eq_true rfl) rfl ?_
                  refine ev_aload_n 1 dX10_readOn_107 rfl ?_
                  refine ev_callV (M' := mX10_next) [] vX10_next G10 lay_245 dX10_readOn_108 w_1682 rfl rfl (Nat.le_of_ble_eq_true rfl) h ?_
                  rintro r9 σ27 ⟨rfl, h⟩
                  refine ev_aload_n 1 dX10_readOn_111 rfl ?_
                  refine ev_get G10 lay_245 (k := 48) rfl (Nat.le_of_ble_eq_true rfl) dX10_readOn_112 w_1274 ?_
                  refine ev_iconst 4 dX10_readOn_115 (by decide) ?_
                  refine ev_icmp_ne 123 dX10_readOn_116 (by decide) (fun c9 => ?_) (fun c9 => ?_)
                  · replace h := h.2 c9
                    refine ev_iconst 0 dX10_readOn_123 (by decide) ?_
                    refine ev_istore_n (lv' := [(3, .int 0), (2, .int (x2 ||| 0)), (0, .ref 245), (1, .int x1)]) dX10_readOn_124 (Nat.le_of_ble_eq_true rfl) rfl ?_
                    refine ev_goto 4 dX10_readOn_125 (by decide) ?_
                    refine ev_sub [2, 3, 1, 0] rfl ?_
                    exact h
                  · replace h := h.1 c9
                    refine ev_iconst 1 dX10_readOn_119 (by decide) ?_
                    refine ev_goto 124 dX10_readOn_120 (by decide) ?_
                    refine ev_istore_n (lv' := [(3, .int 1), (2, .int (x2 ||| 0)), (0, .ref 245), (1, .int x1)]) dX10_readOn_124 (Nat.le_of_ble_eq_true rfl) rfl ?_
                    refine ev_goto 4 dX10_readOn_125 (by decide) ?_
                    refine ev_sub [2, 3, 1, 0] rfl ?_
                    exact h
                · replace h := h.1 c9
                  refine ev_iconst 1 dX10_readOn_95 (by decide) ?_
                  refine ev_aload_n 0 dX10_readOn_96 rfl ?_
                  refine ev_get G10 lay_245 (k := 49) rfl (Nat.le_of_ble_eq_true rfl) dX10_readOn_97 w_1275 ?_
                  refine ev_ishl dX10_readOn_100 ?_
                  refine ev_goto 105 dX10_readOn_101 (by decide) ?_
                  refine ev_ior dX10_readOn_105 ?_
                  refine ev_istore_n (lv' := [(2, .int (x2 ||| (1 <<< ((σ26.1 245 49) &&& 31)))), (0, .ref 245), (1, .int x1), (3, .int x3)]) dX10_readOn_106 (Nat.le_of_ble_eq_true rfl) rfl ?_
                  refine ev_aload_n 1 dX10_readOn_107 rfl ?_
                  refine ev_callV (M' := mX10_next) [] vX10_next G10 lay_245 dX10_readOn_108 w_1682 rfl rfl (Nat.le_of_ble_eq_true rfl) h ?_
                  rintro r9 σ28 ⟨rfl, h⟩
                  refine ev_aload_n 1 dX10_readOn_111 rfl ?_
                  refine ev_get G10 lay_245 (k := 48) rfl (Nat.le_of_ble_eq_true rfl) dX10_readOn_112 w_1274 ?_
                  refine ev_iconst 4 dX10_readOn_115 (by decide) ?_
                  refine ev_icmp_ne 123 dX10_readOn_116 (by decide) (fun c9 => ?_) (fun c9 => ?_)
                  · replace h := h.2 c9
                    refine ev_iconst 0 dX10_readOn_123 (by decide) ?_
                    refine ev_istore_n (lv' := [(3, .int 0), (2, .int (x2 ||| (1 <<< ((σ26.1 245 49) &&& 31)))), (0, .ref 245), (1, .int x1)]) dX10_readOn_124 (Nat.le_of_ble_eq_true rfl) rfl ?_
                    refine ev_goto 4 dX10_readOn_125 (by decide) ?_
                    refine ev_sub [2, 3, 1, 0] rfl ?_
                    exact h
                  · replace h := h.1 c9
                    refine ev_iconst 1 dX10_readOn_119 (by decide) ?_
                    refine ev_goto 124 dX10_readOn_120 (by decide) ?_
                    refine ev_istore_n (lv' := [(3, .int 1), (2, .int (x2 ||| (1 <<< ((σ26.1 245 49) &&& 31)))), (0, .ref 245), (1, .int x1)]) dX10_readOn_124 (Nat.le_of_ble_eq_true rfl) rfl ?_
                    refine ev_goto 4 dX10_readOn_125 (by decide) ?_
                    refine ev_sub [2, 3, 1, 0] rfl ?_
                    exact h
              · replace h := h.1 c9
                refine ev_iconst 1 dX10_readOn_78 (by decide) ?_
                refine ev_goto 83 dX10_readOn_79 (by decide) ?_
                refine ev_iconst 3 dX10_readOn_83 (by decide) ?_
                refine ev_callV (M' := mX10_wants) [.int 1, .int 3] vX10_wants G10 lay_245 dX10_readOn_84 w_1700 rfl rfl (Nat.le_of_ble_eq_true rfl) h ?_
                rintro r9 σ29 ⟨rfl, h⟩
                refine ev_iload_n 2 dX10_readOn_87 rfl ?_
                refine ev_aload_n 0 dX10_readOn_88 rfl ?_
                refine ev_get G10 lay_245 (k := 50) rfl (Nat.le_of_ble_eq_true rfl) dX10_readOn_89 w_1276 ?_
                refine ev_if_ne 104 dX10_readOn_92 (by decide) (fun c9 => ?_) (fun c9 => ?_)
                · replace h := h.2 c9
                  refine ev_iconst 0 dX10_readOn_104 (by decide) ?_
                  refine ev_ior dX10_readOn_105 ?_
                  refine ev_istore_n (lv' := [(2, .int (x2 ||| 0)), (0, .ref 245), (1, .int x1), (3, .int x3)]) dX10_readOn_106 (Nat.le_of_ble_eq_true rfl) rfl ?_
                  refine ev_aload_n 1 dX10_readOn_107 rfl ?_
                  refine ev_callV (M' := mX10_next) [] vX10_next G10 lay_245 dX10_readOn_108 w_1682 rfl rfl (Nat.le_of_ble_eq_true rfl) h ?_
                  rintro r9 σ30 ⟨rfl, h⟩
                  refine ev_aload_n 1 dX10_readOn_111 rfl ?_
                  refine ev_get G10 lay_245 (k := 48) rfl (Nat.le_of_ble_eq_true rfl) dX10_readOn_112 w_1274 ?_
                  refine ev_iconst 4 dX10_readOn_115 (by decide) ?_
                  refine ev_icmp_ne 123 dX10_readOn_116 (by decide) (fun c9 => ?_) (fun c9 => ?_)
                  · replace h := h.2 c9
                    refine ev_iconst 0 dX10_readOn_123 (by decide) ?_
                    refine ev_istore_n (lv' := [(3, .int 0), (2, .int (x2 ||| 0)), (0, .ref 245), (1, .int x1)]) dX10_readOn_124 (Nat.le_of_ble_eq_true rfl) rfl ?_
                    refine ev_goto 4 dX10_readOn_125 (by decide) ?_
                    refine ev_sub [2, 3, 1, 0] rfl ?_
                    exact h
                  · replace h := h.1 c9
                    refine ev_iconst 1 dX10_readOn_119 (by decide) ?_
                    refine ev_goto 124 dX10_readOn_120 (by decide) ?_
                    refine ev_istore_n (lv' := [(3, .int 1), (2, .int (x2 ||| 0)), (0, .ref 245), (1, .int x1)]) dX10_readOn_124 (Nat.le_of_ble_eq_true rfl) rfl ?_
                    refine ev_goto 4 dX10_readOn_125 (by decide) ?_
                    refine ev_sub [2, 3, 1, 0] rfl ?_
                    exact h
                · replace h := h.1 c9
                  refine ev_iconst 1 dX10_readOn_95 (by decide) ?_
                  refine ev_aload_n 0 dX10_readOn_96 rfl ?_
                  refine ev_get G10 lay_245 (k := 49) rfl (Nat.le_of_ble_eq_true rfl) dX10_readOn_97 w_1275 ?_
                  refine ev_ishl dX10_readOn_100 ?_
                  refine ev_goto 105 dX10_readOn_101 (by decide) ?_
                  refine ev_ior dX10_readOn_105 ?_
                  refine ev_istore_n (lv' := [(2, .int (x2 ||| (1 <<< ((σ29.1 245 49) &&& 31)))), (0, .ref 245), (1, .int x1), (3, .int x3)]) dX10_readOn_106 (Nat.le_of_ble_eq_true rfl) rfl ?_
                  refine ev_aload_n 1 dX10_readOn_107 rfl ?_
                  refine ev_callV (M' := mX10_next) [] vX10_next G10 lay_245 dX10_readOn_108 w_1682 rfl rfl (Nat.le_of_ble_eq_true rfl) h ?_
                  rintro r9 σ31 ⟨rfl, h⟩
                  refine ev_aload_n 1 dX10_readOn_111 rfl ?_
                  refine ev_get G10 lay_245 (k := 48) rfl (Nat.le_of_ble_eq_true rfl) dX10_readOn_112 w_1274 ?_
                  refine ev_iconst 4 dX10_readOn_115 (by decide) ?_
                  refine ev_icmp_ne 123 dX10_readOn_116 (by decide) (fun c9 => ?_) (fun c9 => ?_)
                  · replace h := h.2 c9
                    refine ev_iconst 0 dX10_readOn_123 (by decide) ?_
                    refine ev_istore_n (lv' := [(3, .int 0), (2, .int (x2 ||| (1 <<< ((σ29.1 245 49) &&& 31)))), (0, .ref 245), (1, .int x1)]) dX10_readOn_124 (Nat.le_of_ble_eq_true rfl) rfl ?_
                    refine ev_goto 4 dX10_readOn_125 (by decide) ?_
                    refine ev_sub [2, 3, 1, 0] rfl ?_
                    exact h
                  · replace h := h.1 c9
                    refine ev_iconst 1 dX10_readOn_119 (by decide) ?_
                    refine ev_goto 124 dX10_readOn_120 (by decide) ?_
                    refine ev_istore_n (lv' := [(3, .int 1), (2, .int (x2 ||| (1 <<< ((σ29.1 245 49) &&& 31)))), (0, .ref 245), (1, .int x1)]) dX10_readOn_124 (Nat.le_of_ble_eq_true rfl) rfl ?_
                    refine ev_goto 4 dX10_readOn_125 (by decide) ?_
                    refine ev_sub [2, 3, 1, 0] rfl ?_
                    exact h
abbrev KX10_readClaim_77 (N : Nat) (σ : Sg) (Q : Option Value → Sg → Prop) (x1 : Int32) (x2 : Int32) (x3 : Int32) (x4 : Int32) : Prop := Ev (N + 5) mX10_readClaim 77 [(0, .ref 245), (1, .int x1), (2, .int x2), (3, .int x3), (4, .int x4)] [] σ Q
theorem EX10_readClaim {N : Nat} {σ : Sg} {Q : Option Value → Sg → Prop} {x1 : Int32} (h : ((σ.1 245 48) = 1 → (5 ≤ (σ.1 245 49) → EvM (N + 4) mX10_wants [.ref 245, .int 0, .int 2] σ (fun r9 σ10 => r9 = none ∧ ((20 ≤ x1 → EvM (N + 4) mX10_wants [.ref 245, .int 0, .int 5] σ10 (fun r9 σ11 => r9 = none ∧ (EvM (N + 4) mX10_next [.ref 245] σ11 (fun r9 σ12 => r9 = none ∧ (((σ12.1 245 48) = 2 → EvM (N + 4) mX10_wants [.ref 245, .int 1, .int 2] σ12 (fun r9 σ14 => r9 = none ∧ (KX10_readClaim_77 N σ14 Q x1 (σ11.1 245 49) (σ14.1 245 49) 0))) ∧ (¬ (σ12.1 245 48) = 2 → EvM (N + 4) mX10_wants [.ref 245, .int 0, .int 2] σ12 (fun r9 σ13 => r9 = none ∧ (KX10_readClaim_77 N σ13 Q x1 (σ11.1 245 49) (σ13.1 245 49) 0)))))))) ∧ (¬ 20 ≤ x1 → EvM (N + 4) mX10_wants [.ref 245, .int 1, .int 5] σ10 (fun r9 σ15 => r9 = none ∧ (EvM (N + 4) mX10_next [.ref 245] σ15 (fun r9 σ16 => r9 = none ∧ (((σ16.1 245 48) = 2 → EvM (N + 4) mX10_wants [.ref 245, .int 1, .int 2] σ16 (fun r9 σ18 => r9 = none ∧ (KX10_readClaim_77 N σ18 Q x1 (σ15.1 245 49) (σ18.1 245 49) 0))) ∧ (¬ (σ16.1 245 48) = 2 → EvM (N + 4) mX10_wants [.ref 245, .int 0, .int 2] σ16 (fun r9 σ17 => r9 = none ∧ (KX10_readClaim_77 N σ17 Q x1 (σ15.1 245 49) (σ17.1 245 49) 0))))))))))) ∧ (¬ 5 ≤ (σ.1 245 49) → EvM (N + 4) mX10_wants [.ref 245, .int 1, .int 2] σ (fun r9 σ19 => r9 = none ∧ ((20 ≤ x1 → EvM (N + 4) mX10_wants [.ref 245, .int 0, .int 5] σ19 (fun r9 σ20 => r9 = none ∧ (EvM (N + 4) mX10_next [.ref 245] σ20 (fun r9 σ21 => r9 = none ∧ (((σ21.1 245 48) = 2 → EvM (N + 4) mX10_wants [.ref 245, .int 1, .int 2] σ21 (fun r9 σ23 => r9 = none ∧ (KX10_readClaim_77 N σ23 Q x1 (σ20.1 245 49) (σ23.1 245 49) 0))) ∧ (¬ (σ21.1 245 48) = 2 → EvM (N + 4) mX10_wants [.ref 245, .int 0, .int 2] σ21 (fun r9 σ22 => r9 = none ∧ (KX10_readClaim_77 N σ22 Q x1 (σ20.1 245 49) (σ22.1 245 49) 0)))))))) ∧ (¬ 20 ≤ x1 → EvM (N + 4) mX10_wants [.ref 245, .int 1, .int 5] σ19 (fun r9 σ24 => r9 = none ∧ (EvM (N + 4) mX10_next [.ref 245] σ24 (fun r9 σ25 => r9 = none ∧ (((σ25.1 245 48) = 2 → EvM (N + 4) mX10_wants [.ref 245, .int 1, .int 2] σ25 (fun r9 σ27 => r9 = none ∧ (KX10_readClaim_77 N σ27 Q x1 (σ24.1 245 49) (σ27.1 245 49) 0))) ∧ (¬ (σ25.1 245 48) = 2 → EvM (N + 4) mX10_wants [.ref 245, .int 0, .int 2] σ25 (fun r9 σ26 => r9 = none ∧ (KX10_readClaim_77 N σ26 Q x1 (σ24.1 245 49) (σ26.1 245 49) 0)))))))))))) ∧ (¬ (σ.1 245 48) = 1 → EvM (N + 4) mX10_wants [.ref 245, .int 0, .int 2] σ (fun r9 σ1 => r9 = none ∧ ((20 ≤ x1 → EvM (N + 4) mX10_wants [.ref 245, .int 0, .int 5] σ1 (fun r9 σ2 => r9 = none ∧ (EvM (N + 4) mX10_next [.ref 245] σ2 (fun r9 σ3 => r9 = none ∧ (((σ3.1 245 48) = 2 → EvM (N + 4) mX10_wants [.ref 245, .int 1, .int 2] σ3 (fun r9 σ5 => r9 = none ∧ (KX10_readClaim_77 N σ5 Q x1 (σ2.1 245 49) (σ5.1 245 49) 0))) ∧ (¬ (σ3.1 245 48) = 2 → EvM (N + 4) mX10_wants [.ref 245, .int 0, .int 2] σ3 (fun r9 σ4 => r9 = none ∧ (KX10_readClaim_77 N σ4 Q x1 (σ2.1 245 49) (σ4.1 245 49) 0)))))))) ∧ (¬ 20 ≤ x1 → EvM (N + 4) mX10_wants [.ref 245, .int 1, .int 5] σ1 (fun r9 σ6 => r9 = none ∧ (EvM (N + 4) mX10_next [.ref 245] σ6 (fun r9 σ7 => r9 = none ∧ (((σ7.1 245 48) = 2 → EvM (N + 4) mX10_wants [.ref 245, .int 1, .int 2] σ7 (fun r9 σ9 => r9 = none ∧ (KX10_readClaim_77 N σ9 Q x1 (σ6.1 245 49) (σ9.1 245 49) 0))) ∧ (¬ (σ7.1 245 48) = 2 → EvM (N + 4) mX10_wants [.ref 245, .int 0, .int 2] σ7 (fun r9 σ8 => r9 = none ∧ (KX10_readClaim_77 N σ8 Q x1 (σ6.1 245 49) (σ8.1 245 49) 0)))))))))))) : EvM (N + 5) mX10_readClaim [.ref 245, .int x1] σ Q := by
  refine ev_entry rfl (Nat.le_of_ble_eq_true rfl) (lv := [(0, .ref 245), (1, .int x1)]) rfl ?_
  refine ev_aload_n 0 dX10_readClaim_0 rfl ?_
  refine ev_aload_n 0 dX10_readClaim_1 rfl ?_
  refine ev_get G10 lay_245 (k := 48) rfl (Nat.le_of_ble_eq_true rfl) dX10_readClaim_2 w_1274 ?_
  refine ev_iconst 1 dX10_readClaim_5 (by decide) ?_
  refine ev_icmp_ne 21 dX10_readClaim_6 (by decide) (fun c9 => ?_) (fun c9 => ?_)
  · replace h := h.2 c9
    refine ev_iconst 0 dX10_readClaim_21 (by decide) ?_
    refine ev_iconst 2 dX10_readClaim_22 (by decide) ?_
    refine ev_callV (M' := mX10_wants) [.int 0, .int 2] vX10_wants G10 lay_245 dX10_readClaim_23 w_1700 rfl rfl (Nat.le_of_ble_eq_true rfl) h ?_
    rintro r9 σ1 ⟨rfl, h⟩
    refine ev_aload_n 0 dX10_readClaim_26 rfl ?_
    refine ev_iload_n 1 dX10_readClaim_27 rfl ?_
    refine ev_bipush 20 dX10_readClaim_28 (by decide) ?_
    refine ev_icmp_ge 37 dX10_readClaim_30 (by decide) (fun c9 => ?_) (fun c9 => ?_)
    · replace h := h.1 c9
      refine ev_iconst 0 dX10_readClaim_37 (by decide) ?_
      refine ev_iconst 5 dX10_readClaim_38 (by decide) ?_
      refine ev_callV (M' := mX10_wants) [.int 0, .int 5] vX10_wants G10 lay_245 dX10_readClaim_39 w_1700 rfl rfl (Nat.le_of_ble_eq_true rfl) h ?_
      rintro r9 σ2 ⟨rfl, h⟩
      refine ev_aload_n 0 dX10_readClaim_42 rfl ?_
      refine ev_get G10 lay_245 (k := 49) rfl (Nat.le_of_ble_eq_true rfl) dX10_readClaim_43 w_1275 ?_
      refine ev_istore_n (lv' := [(2, .int (σ2.1 245 49)), (0, .ref 245), (1, .int x1)]) dX10_readClaim_46 (Nat.le_of_ble_eq_true rfl) rfl ?_
      refine ev_aload_n 1 dX10_readClaim_47 rfl ?_
      refine ev_callV (M' := mX10_next) [] vX10_next G10 lay_245 dX10_readClaim_48 w_1682 rfl rfl (Nat.le_of_ble_eq_true rfl) h ?_
      rintro r9 σ3 ⟨rfl, h⟩
      refine ev_aload_n 1 dX10_readClaim_51 rfl ?_
      refine ev_aload_n 1 dX10_readClaim_52 rfl ?_
      refine ev_get G10 lay_245 (k := 48) rfl (Nat.le_of_ble_eq_true rfl) dX10_readClaim_53 w_1274 ?_
      refine ev_iconst 2 dX10_readClaim_56 (by decide) ?_
      refine ev_icmp_ne 64 dX10_readClaim_57 (by decide) (fun c9 => ?_) (fun c9 => ?_)
      · replace h := h.2 c9
        refine ev_iconst 0 dX10_readClaim_64 (by decide) ?_
        refine ev_iconst 2 dX10_readClaim_65 (by decide) ?_
        refine ev_callV (M' := mX10_wants) [.int 0, .int 2] vX10_wants G10 lay_245 dX10_readClaim_66 w_1700 rfl rfl (Nat.le_of_ble_eq_true rfl) h ?_
        rintro r9 σ4 ⟨rfl, h⟩
        refine ev_aload_n 1 dX10_readClaim_69 rfl ?_
        refine ev_get G10 lay_245 (k := 49) rfl (Nat.le_of_ble_eq_true rfl) dX10_readClaim_70 w_1275 ?_
        refine ev_istore_n (lv' := [(3, .int (σ4.1 245 49)), (2, .int (σ2.1 245 49)), (0, .ref 245), (1, .int x1)]) dX10_readClaim_73 (Nat.le_of_ble_eq_true rfl) rfl ?_
        refine ev_iconst 0 dX10_readClaim_74 (by decide) ?_
        refine ev_istore (lv' := [(4, .int 0), (3, .int (σ4.1 245 49)), (2, .int (σ2.1 245 49)), (0, .ref 245), (1, .int x1)]) dX10_readClaim_75 (Nat.le_of_ble_eq_true rfl) rfl ?_
        refine ev_sub [3, 4, 2, 1, 0] rfl ?_
        exact h
      · replace h := h.1 c9
        refine ev_iconst 1 dX10_readClaim_60 (by decide) ?_
        refine ev_goto 65 dX10_readClaim_61 (by decide) ?_
        refine ev_iconst 2 dX10_readClaim_65 (by decide) ?_
        refine ev_callV (M' := mX10_wants) [.int 1, .int 2] vX10_wants G10 lay_245 dX10_readClaim_66 w_1700 rfl rfl (Nat.le_of_ble_eq_true rfl) h ?_
        rintro r9 σ5 ⟨rfl, h⟩
        refine ev_aload_n 1 dX10_readClaim_69 rfl ?_
        refine ev_get G10 lay_245 (k := 49) rfl (Nat.le_of_ble_eq_true rfl) dX10_readClaim_70 w_1275 ?_
        refine ev_istore_n (lv' := [(3, .int (σ5.1 245 49)), (2, .int (σ2.1 245 49)), (0, .ref 245), (1, .int x1)]) dX10_readClaim_73 (Nat.le_of_ble_eq_true rfl) rfl ?_
        refine ev_iconst 0 dX10_readClaim_74 (by decide) ?_
        refine ev_istore (lv' := [(4, .int 0), (3, .int (σ5.1 245 49)), (2, .int (σ2.1 245 49)), (0, .ref 245), (1, .int x1)]) dX10_readClaim_75 (Nat.le_of_ble_eq_true rfl) rfl ?_
        refine ev_sub [3, 4, 2, 1, 0] rfl ?_
        exact h
    · replace h := h.2 c9
      refine ev_iconst 1 dX10_readClaim_33 (by decide) ?_
      refine ev_goto 38 dX10_readClaim_34 (by decide) ?_
      refine ev_iconst 5 dX10_readClaim_38 (by decide) ?_
      refine ev_callV (M' := mX10_wants) [.int 1, .int 5] vX10_wants G10 lay_245 dX10_readClaim_39 w_1700 rfl rfl (Nat.le_of_ble_eq_true rfl) h ?_
      rintro r9 σ6 ⟨rfl, h⟩
      refine ev_aload_n 0 dX10_readClaim_42 rfl ?_
      refine ev_get G10 lay_245 (k := 49) rfl (Nat.le_of_ble_eq_true rfl) dX10_readClaim_43 w_1275 ?_
      refine ev_istore_n (lv' := [(2, .int (σ6.1 245 49)), (0, .ref 245), (1, .int x1)]) dX10_readClaim_46 (Nat.le_of_ble_eq_true rfl) rfl ?_
      refine ev_aload_n 1 dX10_readClaim_47 rfl ?_
      refine ev_callV (M' := mX10_next) [] vX10_next G10 lay_245 dX10_readClaim_48 w_1682 rfl rfl (Nat.le_of_ble_eq_true rfl) h ?_
      rintro r9 σ7 ⟨rfl, h⟩
      refine ev_aload_n 1 dX10_readClaim_51 rfl ?_
      refine ev_aload_n 1 dX10_readClaim_52 rfl ?_
      refine ev_get G10 lay_245 (k := 48) rfl (Nat.le_of_ble_eq_true rfl) dX10_readClaim_53 w_1274 ?_
      refine ev_iconst 2 dX10_readClaim_56 (by decide) ?_
      refine ev_icmp_ne 64 dX10_readClaim_57 (by decide) (fun c9 => ?_) (fun c9 => ?_)
      · replace h := h.2 c9
        refine ev_iconst 0 dX10_readClaim_64 (by decide) ?_
        refine ev_iconst 2 dX10_readClaim_65 (by decide) ?_
        refine ev_callV (M' := mX10_wants) [.int 0, .int 2] vX10_wants G10 lay_245 dX10_readClaim_66 w_1700 rfl rfl (Nat.le_of_ble_eq_true rfl) h ?_
        rintro r9 σ8 ⟨rfl, h⟩
        refine ev_aload_n 1 dX10_readClaim_69 rfl ?_
        refine ev_get G10 lay_245 (k := 49) rfl (Nat.le_of_ble_eq_true rfl) dX10_readClaim_70 w_1275 ?_
        refine ev_istore_n (lv' := [(3, .int (σ8.1 245 49)), (2, .int (σ6.1 245 49)), (0, .ref 245), (1, .int x1)]) dX10_readClaim_73 (Nat.le_of_ble_eq_true rfl) rfl ?_
        refine ev_iconst 0 dX10_readClaim_74 (by decide) ?_
        refine ev_istore (lv' := [(4, .int 0), (3, .int (σ8.1 245 49)), (2, .int (σ6.1 245 49)), (0, .ref 245), (1, .int x1)]) dX10_readClaim_75 (Nat.le_of_ble_eq_true rfl) rfl ?_
        refine ev_sub [3, 4, 2, 1, 0] rfl ?_
        exact h
      · replace h := h.1 c9
        refine ev_iconst 1 dX10_readClaim_60 (by decide) ?_
        refine ev_goto 65 dX10_readClaim_61 (by decide) ?_
        refine ev_iconst 2 dX10_readClaim_65 (by decide) ?_
        refine ev_callV (M' := mX10_wants) [.int 1, .int 2] vX10_wants G10 lay_245 dX10_readClaim_66 w_1700 rfl rfl (Nat.le_of_ble_eq_true rfl) h ?_
        rintro r9 σ9 ⟨rfl, h⟩
        refine ev_aload_n 1 dX10_readClaim_69 rfl ?_
        refine ev_get G10 lay_245 (k := 49) rfl (Nat.le_of_ble_eq_true rfl) dX10_readClaim_70 w_1275 ?_
        refine ev_istore_n (lv' := [(3, .int (σ9.1 245 49)), (2, .int (σ6.1 245 49)), (0, .ref 245), (1, .int x1)]) dX10_readClaim_73 (Nat.le_of_ble_eq_true rfl) rfl ?_
        refine ev_iconst 0 dX10_readClaim_74 (by decide) ?_
        refine ev_istore (lv' := [(4, .int 0), (3, .int (σ9.1 245 49)), (2, .int (σ6.1 245 49)), (0, .ref 245), (1, .int x1)]) dX10_readClaim_75 (Nat.le_of_ble_eq_true rfl) rfl ?_
        refine ev_sub [3, 4, 2, 1, 0] rfl ?_
        exact h
  · replace h := h.1 c9
    refine ev_aload_n 0 dX10_readClaim_9 rfl ?_
    refine ev_get G10 lay_245 (k := 49) rfl (Nat.le_of_ble_eq_true rfl) dX10_readClaim_10 w_1275 ?_
    refine ev_iconst 5 dX10_readClaim_13 (by decide) ?_
    refine ev_icmp_ge 21 dX10_readClaim_14 (by decide) (fun c9 => ?_) (fun c9 => ?_)
    · replace h := h.1 c9
      refine ev_iconst 0 dX10_readClaim_21 (by decide) ?_
      refine ev_iconst 2 dX10_readClaim_22 (by decide) ?_
      refine ev_callV (M' := mX10_wants) [.int 0, .int 2] vX10_wants G10 lay_245 dX10_readClaim_23 w_1700 rfl rfl (Nat.le_of_ble_eq_true rfl) h ?_
      rintro r9 σ10 ⟨rfl, h⟩
      refine ev_aload_n 0 dX10_readClaim_26 rfl ?_
      refine ev_iload_n 1 dX10_readClaim_27 rfl ?_
      refine ev_bipush 20 dX10_readClaim_28 (by decide) ?_
      refine ev_icmp_ge 37 dX10_readClaim_30 (by decide) (fun c9 => ?_) (fun c9 => ?_)
      · replace h := h.1 c9
        refine ev_iconst 0 dX10_readClaim_37 (by decide) ?_
        refine ev_iconst 5 dX10_readClaim_38 (by decide) ?_
        refine ev_callV (M' := mX10_wants) [.int 0, .int 5] vX10_wants G10 lay_245 dX10_readClaim_39 w_1700 rfl rfl (Nat.le_of_ble_eq_true rfl) h ?_
        rintro r9 σ11 ⟨rfl, h⟩
        refine ev_aload_n 0 dX10_readClaim_42 rfl ?_
        refine ev_get G10 lay_245 (k := 49) rfl (Nat.le_of_ble_eq_true rfl) dX10_readClaim_43 w_1275 ?_
        refine ev_istore_n (lv' := [(2, .int (σ11.1 245 49)), (0, .ref 245), (1, .int x1)]) dX10_readClaim_46 (Nat.le_of_ble_eq_true rfl) rfl ?_
        refine ev_aload_n 1 dX10_readClaim_47 rfl ?_
        refine ev_callV (M' := mX10_next) [] vX10_next G10 lay_245 dX10_readClaim_48 w_1682 rfl rfl (Nat.le_of_ble_eq_true rfl) h ?_
        rintro r9 σ12 ⟨rfl, h⟩
        refine ev_aload_n 1 dX10_readClaim_51 rfl ?_
        refine ev_aload_n 1 dX10_readClaim_52 rfl ?_
        refine ev_get G10 lay_245 (k := 48) rfl (Nat.le_of_ble_eq_true rfl) dX10_readClaim_53 w_1274 ?_
        refine ev_iconst 2 dX10_readClaim_56 (by decide) ?_
        refine ev_icmp_ne 64 dX10_readClaim_57 (by decide) (fun c9 => ?_) (fun c9 => ?_)
        · replace h := h.2 c9
          refine ev_iconst 0 dX10_readClaim_64 (by decide) ?_
          refine ev_iconst 2 dX10_readClaim_65 (by decide) ?_
          refine ev_callV (M' := mX10_wants) [.int 0, .int 2] vX10_wants G10 lay_245 dX10_readClaim_66 w_1700 rfl rfl (Nat.le_of_ble_eq_true rfl) h ?_
          rintro r9 σ13 ⟨rfl, h⟩
          refine ev_aload_n 1 dX10_readClaim_69 rfl ?_
          refine ev_get G10 lay_245 (k := 49) rfl (Nat.le_of_ble_eq_true rfl) dX10_readClaim_70 w_1275 ?_
          refine ev_istore_n (lv' := [(3, .int (σ13.1 245 49)), (2, .int (σ11.1 245 49)), (0, .ref 245), (1, .int x1)]) dX10_readClaim_73 (Nat.le_of_ble_eq_true rfl) rfl ?_
          refine ev_iconst 0 dX10_readClaim_74 (by decide) ?_
          refine ev_istore (lv' := [(4, .int 0), (3, .int (σ13.1 245 49)), (2, .int (σ11.1 245 49)), (0, .ref 245), (1, .int x1)]) dX10_readClaim_75 (Nat.le_of_ble_eq_true rfl) rfl ?_
          refine ev_sub [3, 4, 2, 1, 0] rfl ?_
          exact h
        · replace h := h.1 c9
          refine ev_iconst 1 dX10_readClaim_60 (by decide) ?_
          refine ev_goto 65 dX10_readClaim_61 (by decide) ?_
          refine ev_iconst 2 dX10_readClaim_65 (by decide) ?_
          refine ev_callV (M' := mX10_wants) [.int 1, .int 2] vX10_wants G10 lay_245 dX10_readClaim_66 w_1700 rfl rfl (Nat.le_of_ble_eq_true rfl) h ?_
          rintro r9 σ14 ⟨rfl, h⟩
          refine ev_aload_n 1 dX10_readClaim_69 rfl ?_
          refine ev_get G10 lay_245 (k := 49) rfl (Nat.le_of_ble_eq_true rfl) dX10_readClaim_70 w_1275 ?_
          refine ev_istore_n (lv' := [(3, .int (σ14.1 245 49)), (2, .int (σ11.1 245 49)), (0, .ref 245), (1, .int x1)]) dX10_readClaim_73 (Nat.le_of_ble_eq_true rfl) rfl ?_
          refine ev_iconst 0 dX10_readClaim_74 (by decide) ?_
          refine ev_istore (lv' := [(4, .int 0), (3, .int (σ14.1 245 49)), (2, .int (σ11.1 245 49)), (0, .ref 245), (1, .int x1)]) dX10_readClaim_75 (Nat.le_of_ble_eq_true rfl) rfl ?_
          refine ev_sub [3, 4, 2, 1, 0] rfl ?_
          exact h
      · replace h := h.2 c9
        refine ev_iconst 1 dX10_readClaim_33 (by decide) ?_
        refine ev_goto 38 dX10_readClaim_34 (by decide) ?_
        refine ev_iconst 5 dX10_readClaim_38 (by decide) ?_
        refine ev_callV (M' := mX10_wants) [.int 1, .int 5] vX10_wants G10 lay_245 dX10_readClaim_39 w_1700 rfl rfl (Nat.le_of_ble_eq_true rfl) h ?_
        rintro r9 σ15 ⟨rfl, h⟩
        refine ev_aload_n 0 dX10_readClaim_42 rfl ?_
        refine ev_get G10 lay_245 (k := 49) rfl (Nat.le_of_ble_eq_true rfl) dX10_readClaim_43 w_1275 ?_
        refine ev_istore_n (lv' := [(2, .int (σ15.1 245 49)), (0, .ref 245), (1, .int x1)]) dX10_readClaim_46 (Nat.le_of_ble_eq_true rfl) rfl ?_
        refine ev_aload_n 1 dX10_readClaim_47 rfl ?_
        refine ev_callV (M' := mX10_next) [] vX10_next G10 lay_245 dX10_readClaim_48 w_1682 rfl rfl (Nat.le_of_ble_eq_true rfl) h ?_
        rintro r9 σ16 ⟨rfl, h⟩
        refine ev_aload_n 1 dX10_readClaim_51 rfl ?_
        refine ev_aload_n 1 dX10_readClaim_52 rfl ?_
        refine ev_get G10 lay_245 (k := 48) rfl (Nat.le_of_ble_eq_true rfl) dX10_readClaim_53 w_1274 ?_
        refine ev_iconst 2 dX10_readClaim_56 (by decide) ?_
        refine ev_icmp_ne 64 dX10_readClaim_57 (by decide) (fun c9 => ?_) (fun c9 => ?_)
        · replace h := h.2 c9
          refine ev_iconst 0 dX10_readClaim_64 (by decide) ?_
          refine ev_iconst 2 dX10_readClaim_65 (by decide) ?_
          refine ev_callV (M' := mX10_wants) [.int 0, .int 2] vX10_wants G10 lay_245 dX10_readClaim_66 w_1700 rfl rfl (Nat.le_of_ble_eq_true rfl) h ?_
          rintro r9 σ17 ⟨rfl, h⟩
          refine ev_aload_n 1 dX10_readClaim_69 rfl ?_
          refine ev_get G10 lay_245 (k := 49) rfl (Nat.le_of_ble_eq_true rfl) dX10_readClaim_70 w_1275 ?_
          refine ev_istore_n (lv' := [(3, .int (σ17.1 245 49)), (2, .int (σ15.1 245 49)), (0, .ref 245), (1, .int x1)]) dX10_readClaim_73 (Nat.le_of_ble_eq_true rfl) rfl ?_
          refine ev_iconst 0 dX10_readClaim_74 (by decide) ?_
          refine ev_istore (lv' := [(4, .int 0), (3, .int (σ17.1 245 49)), (2, .int (σ15.1 245 49)), (0, .ref 245), (1, .int x1)]) dX10_readClaim_75 (Nat.le_of_ble_eq_true rfl) rfl ?_
          refine ev_sub [3, 4, 2, 1, 0] rfl ?_
          exact h
        · replace h := h.1 c9
          refine ev_iconst 1 dX10_readClaim_60 (by decide) ?_
          refine ev_goto 65 dX10_readClaim_61 (by decide) ?_
          refine ev_iconst 2 dX10_readClaim_65 (by decide) ?_
          refine ev_callV (M' := mX10_wants) [.int 1, .int 2] vX10_wants G10 lay_245 dX10_readClaim_66 w_1700 rfl rfl (Nat.le_of_ble_eq_true rfl) h ?_
          rintro r9 σ18 ⟨rfl, h⟩
          refine ev_aload_n 1 dX10_readClaim_69 rfl ?_
          refine ev_get G10 lay_245 (k := 49) rfl (Nat.le_of_ble_eq_true rfl) dX10_readClaim_70 w_1275 ?_
          refine ev_istore_n (lv' := [(3, .int (σ18.1 245 49)), (2, .int (σ15.1 245 49)), (0, .ref 245), (1, .int x1)]) dX10_readClaim_73 (Nat.le_of_ble_eq_true rfl) rfl ?_
          refine ev_iconst 0 dX10_readClaim_74 (by decide) ?_
          refine ev_istore (lv' := [(4, .int 0), (3, .int (σ18.1 245 49)), (2, .int (σ15.1 245 49)), (0, .ref 245), (1, .int x1)]) dX10_readClaim_75 (Nat.le_of_ble_eq_true rfl) rfl ?_
          refine ev_sub [3, 4, 2, 1, 0] rfl ?_
          exact h
    · replace h := h.2 c9
      refine ev_iconst 1 dX10_readClaim_17 (by decide) ?_
      refine ev_goto 22 dX10_readClaim_18 (by decide) ?_
      refine ev_iconst 2 dX10_readClaim_22 (by decide) ?_
      refine ev_callV (M' := mX10_wants) [.int 1, .int 2] vX10_wants G10 lay_245 dX10_readClaim_23 w_1700 rfl rfl (Nat.le_of_ble_eq_true rfl) h ?_
      rintro r9 σ19 ⟨rfl, h⟩
      refine ev_aload_n 0 dX10_readClaim_26 rfl ?_
      refine ev_iload_n 1 dX10_readClaim_27 rfl ?_
      refine ev_bipush 20 dX10_readClaim_28 (by decide) ?_
      refine ev_icmp_ge 37 dX10_readClaim_30 (by decide) (fun c9 => ?_) (fun c9 => ?_)
      · replace h := h.1 c9
        refine ev_iconst 0 dX10_readClaim_37 (by decide) ?_
        refine ev_iconst 5 dX10_readClaim_38 (by decide) ?_
        refine ev_callV (M' := mX10_wants) [.int 0, .int 5] vX10_wants G10 lay_245 dX10_readClaim_39 w_1700 rfl rfl (Nat.le_of_ble_eq_true rfl) h ?_
        rintro r9 σ20 ⟨rfl, h⟩
        refine ev_aload_n 0 dX10_readClaim_42 rfl ?_
        refine ev_get G10 lay_245 (k := 49) rfl (Nat.le_of_ble_eq_true rfl) dX10_readClaim_43 w_1275 ?_
        refine ev_istore_n (lv' := [(2, .int (σ20.1 245 49)), (0, .ref 245), (1, .int x1)]) dX10_readClaim_46 (Nat.le_of_ble_eq_true rfl) rfl ?_
        refine ev_aload_n 1 dX10_readClaim_47 rfl ?_
        refine ev_callV (M' := mX10_next) [] vX10_next G10 lay_245 dX10_readClaim_48 w_1682 rfl rfl (Nat.le_of_ble_eq_true rfl) h ?_
        rintro r9 σ21 ⟨rfl, h⟩
        refine ev_aload_n 1 dX10_readClaim_51 rfl ?_
        refine ev_aload_n 1 dX10_readClaim_52 rfl ?_
        refine ev_get G10 lay_245 (k := 48) rfl (Nat.le_of_ble_eq_true rfl) dX10_readClaim_53 w_1274 ?_
        refine ev_iconst 2 dX10_readClaim_56 (by decide) ?_
        refine ev_icmp_ne 64 dX10_readClaim_57 (by decide) (fun c9 => ?_) (fun c9 => ?_)
        · replace h := h.2 c9
          refine ev_iconst 0 dX10_readClaim_64 (by decide) ?_
          refine ev_iconst 2 dX10_readClaim_65 (by decide) ?_
          refine ev_callV (M' := mX10_wants) [.int 0, .int 2] vX10_wants G10 lay_245 dX10_readClaim_66 w_1700 rfl rfl (Nat.le_of_ble_eq_true rfl) h ?_
          rintro r9 σ22 ⟨rfl, h⟩
          refine ev_aload_n 1 dX10_readClaim_69 rfl ?_
          refine ev_get G10 lay_245 (k := 49) rfl (Nat.le_of_ble_eq_true rfl) dX10_readClaim_70 w_1275 ?_
          refine ev_istore_n (lv' := [(3, .int (σ22.1 245 49)), (2, .int (σ20.1 245 49)), (0, .ref 245), (1, .int x1)]) dX10_readClaim_73 (Nat.le_of_ble_eq_true rfl) rfl ?_
          refine ev_iconst 0 dX10_readClaim_74 (by decide) ?_
          refine ev_istore (lv' := [(4, .int 0), (3, .int (σ22.1 245 49)), (2, .int (σ20.1 245 49)), (0, .ref 245), (1, .int x1)]) dX10_readClaim_75 (Nat.le_of_ble_eq_true rfl) rfl ?_
          refine ev_sub [3, 4, 2, 1, 0] rfl ?_
          exact h
        · replace h := h.1 c9
          refine ev_iconst 1 dX10_readClaim_60 (by decide) ?_
          refine ev_goto 65 dX10_readClaim_61 (by decide) ?_
          refine ev_iconst 2 dX10_readClaim_65 (by decide) ?_
          refine ev_callV (M' := mX10_wants) [.int 1, .int 2] vX10_wants G10 lay_245 dX10_readClaim_66 w_1700 rfl rfl (Nat.le_of_ble_eq_true rfl) h ?_
          rintro r9 σ23 ⟨rfl, h⟩
          refine ev_aload_n 1 dX10_readClaim_69 rfl ?_
          refine ev_get G10 lay_245 (k := 49) rfl (Nat.le_of_ble_eq_true rfl) dX10_readClaim_70 w_1275 ?_
          refine ev_istore_n (lv' := [(3, .int (σ23.1 245 49)), (2, .int (σ20.1 245 49)), (0, .ref 245), (1, .int x1)]) dX10_readClaim_73 (Nat.le_of_ble_eq_true rfl) rfl ?_
          refine ev_iconst 0 dX10_readClaim_74 (by decide) ?_
          refine ev_istore (lv' := [(4, .int 0), (3, .int (σ23.1 245 49)), (2, .int (σ20.1 245 49)), (0, .ref 245), (1, .int x1)]) dX10_readClaim_75 (Nat.le_of_ble_eq_true rfl) rfl ?_
          refine ev_sub [3, 4, 2, 1, 0] rfl ?_
          exact h
      · replace h := h.2 c9
        refine ev_iconst 1 dX10_readClaim_33 (by decide) ?_
        refine ev_goto 38 dX10_readClaim_34 (by decide) ?_
        refine ev_iconst 5 dX10_readClaim_38 (by decide) ?_
        refine ev_callV (M' := mX10_wants) [.int 1, .int 5] vX10_wants G10 lay_245 dX10_readClaim_39 w_1700 rfl rfl (Nat.le_of_ble_eq_true rfl) h ?_
        rintro r9 σ24 ⟨rfl, h⟩
        refine ev_aload_n 0 dX10_readClaim_42 rfl ?_
        refine ev_get G10 lay_245 (k := 49) rfl (Nat.le_of_ble_eq_true rfl) dX10_readClaim_43 w_1275 ?_
        refine ev_istore_n (lv' := [(2, .int (σ24.1 245 49)), (0, .ref 245), (1, .int x1)]) dX10_readClaim_46 (Nat.le_of_ble_eq_true rfl) rfl ?_
        refine ev_aload_n 1 dX10_readClaim_47 rfl ?_
        refine ev_callV (M' := mX10_next) [] vX10_next G10 lay_245 dX10_readClaim_48 w_1682 rfl rfl (Nat.le_of_ble_eq_true rfl) h ?_
        rintro r9 σ25 ⟨rfl, h⟩
        refine ev_aload_n 1 dX10_readClaim_51 rfl ?_
        refine ev_aload_n 1 dX10_readClaim_52 rfl ?_
        refine ev_get G10 lay_245 (k := 48) rfl (Nat.le_of_ble_eq_true rfl) dX10_readClaim_53 w_1274 ?_
        refine ev_iconst 2 dX10_readClaim_56 (by decide) ?_
        refine ev_icmp_ne 64 dX10_readClaim_57 (by decide) (fun c9 => ?_) (fun c9 => ?_)
        · replace h := h.2 c9
          refine ev_iconst 0 dX10_readClaim_64 (by decide) ?_
          refine ev_iconst 2 dX10_readClaim_65 (by decide) ?_
          refine ev_callV (M' := mX10_wants) [.int 0, .int 2] vX10_wants G10 lay_245 dX10_readClaim_66 w_1700 rfl rfl (Nat.le_of_ble_eq_true rfl) h ?_
          rintro r9 σ26 ⟨rfl, h⟩
          refine ev_aload_n 1 dX10_readClaim_69 rfl ?_
          refine ev_get G10 lay_245 (k := 49) rfl (Nat.le_of_ble_eq_true rfl) dX10_readClaim_70 w_1275 ?_
          refine ev_istore_n (lv' := [(3, .int (σ26.1 245 49)), (2, .int (σ24.1 245 49)), (0, .ref 245), (1, .int x1)]) dX10_readClaim_73 (Nat.le_of_ble_eq_true rfl) rfl ?_
          refine ev_iconst 0 dX10_readClaim_74 (by decide) ?_
          refine ev_istore (lv' := [(4, .int 0), (3, .int (σ26.1 245 49)), (2, .int (σ24.1 245 49)), (0, .ref 245), (1, .int x1)]) dX10_readClaim_75 (Nat.le_of_ble_eq_true rfl) rfl ?_
          refine ev_sub [3, 4, 2, 1, 0] rfl ?_
          exact h
        · replace h := h.1 c9
          refine ev_iconst 1 dX10_readClaim_60 (by decide) ?_
          refine ev_goto 65 dX10_readClaim_61 (by decide) ?_
          refine ev_iconst 2 dX10_readClaim_65 (by decide) ?_
          refine ev_callV (M' := mX10_wants) [.int 1, .int 2] vX10_wants G10 lay_245 dX10_readClaim_66 w_1700 rfl rfl (Nat.le_of_ble_eq_true rfl) h ?_
          rintro r9 σ27 ⟨rfl, h⟩
          refine ev_aload_n 1 dX10_readClaim_69 rfl ?_
          refine ev_get G10 lay_245 (k := 49) rfl (Nat.le_of_ble_eq_true rfl) dX10_readClaim_70 w_1275 ?_
          refine ev_istore_n (lv' := [(3, .int (σ27.1 245 49)), (2, .int (σ24.1 245 49)), (0, .ref 245), (1, .int x1)]) dX10_readClaim_73 (Nat.le_of_ble_eq_true rfl) rfl ?_
          refine ev_iconst 0 dX10_readClaim_74 (by decide) ?_
          refine ev_istore (lv' := [(4, .int 0), (3, .int (σ27.1 245 49)), (2, .int (σ24.1 245 49)), (0, .ref 245), (1, .int x1)]) dX10_readClaim_75 (Nat.le_of_ble_eq_true rfl) rfl ?_
          refine ev_sub [3, 4, 2, 1, 0] rfl ?_
          exact h
theorem BX10_readClaim_77 {N : Nat} {σ : Sg} {Q : Option Value → Sg → Prop} {x1 : Int32} {x2 : Int32} {x3 : Int32} {x4 : Int32} (h : (x1 ≤ x4 → EvM (N + 4) mX10_next [.ref 245] σ (fun r9 σ28 => r9 = none ∧ (((σ28.1 245 50) = 0 → ((σ28.1 245 48) = 1 → ((σ28.1 245 49) = 5 → EvM (N + 4) mX10_readOn [.ref 245, .int x1] σ28 (fun r9 σ44 => ∃ v44, r9 = some (.int v44) ∧ (((σ44.1 245 50) = 0 → ((σ44.1 245 48) = 3 → EvM (N + 4) mX10_wants [.ref 245, .int 1, .int 2] σ44 (fun r9 σ48 => r9 = none ∧ (EvM (N + 4) mX10_next [.ref 245] σ48 (fun r9 σ49 => r9 = none ∧ (((σ49.1 245 50) ≤ 0 → vp_in x1 20 ∧ (vp_in x1 20 ∧ (vp_in x1 20 ∧ (vp_in x1 20 ∧ (vp_in x1 20 ∧ (Q (some (.int (x1 + 1))) (u1 (u1 (u1 (u1 (u1 σ49 277 (x1).toNatClampNeg x2) 278 (x1).toNatClampNeg x3) 279 (x1).toNatClampNeg ((u1 (u1 σ49 277 (x1).toNatClampNeg x2) 278 (x1).toNatClampNeg x3).1 245 58)) 280 (x1).toNatClampNeg (-4)) 281 (x1).toNatClampNeg v44))))))) ∧ (¬ (σ49.1 245 50) ≤ 0 → Q (some (.int x1)) σ49)))))) ∧ (¬ (σ44.1 245 48) = 3 → EvM (N + 4) mX10_wants [.ref 245, .int 0, .int 2] σ44 (fun r9 σ46 => r9 = none ∧ (EvM (N + 4) mX10_next [.ref 245] σ46 (fun r9 σ47 => r9 = none ∧ (((σ47.1 245 50) ≤ 0 → vp_in x1 20 ∧ (vp_in x1 20 ∧ (vp_in x1 20 ∧ (vp_in x1 20 ∧ (vp_in x1 20 ∧ (Q (some (.int (x1 + 1))) (u1 (u1 (u1 (u1 (u1 σ47 277 (x1).toNatClampNeg x2) 278 (x1).toNatClampNeg x3) 279 (x1).toNatClampNeg ((u1 (u1 σ47 277 (x1).toNatClampNeg x2) 278 (x1).toNatClampNeg x3).1 245 58)) 280 (x1).toNatClampNeg (-4)) 281 (x1).toNatClampNeg v44))))))) ∧ (¬ (σ47.1 245 50) ≤ 0 → Q (some (.int x1)) σ47))))))) ∧ (¬ (σ44.1 245 50) = 0 → EvM (N + 4) mX10_next [.ref 245] σ44 (fun r9 σ45 => r9 = none ∧ (((σ45.1 245 50) ≤ 0 → vp_in x1 20 ∧ (vp_in x1 20 ∧ (vp_in x1 20 ∧ (vp_in x1 20 ∧ (vp_in x1 20 ∧ (Q (some (.int (x1 + 1))) (u1 (u1 (u1 (u1 (u1 σ45 277 (x1).toNatClampNeg x2) 278 (x1).toNatClampNeg x3) 279 (x1).toNatClampNeg ((u1 (u1 σ45 277 (x1).toNatClampNeg x2) 278 (x1).toNatClampNeg x3).1 245 58)) 280 (x1).toNatClampNeg (-4)) 281 (x1).toNatClampNeg v44))))))) ∧ (¬ (σ45.1 245 50) ≤ 0 → Q (some (.int x1)) σ45))))))) ∧ (¬ (σ28.1 245 49) = 5 → ((σ28.1 245 50) = 0 → ((σ28.1 245 48) = 3 → EvM (N + 4) mX10_wants [.ref 245, .int 1, .int 2] σ28 (fun r9 σ42 => r9 = none ∧ (EvM (N + 4) mX10_next [.ref 245] σ42 (fun r9 σ43 => r9 = none ∧ (((σ43.1 245 50) ≤ 0 → vp_in x1 20 ∧ (vp_in x1 20 ∧ (vp_in x1 20 ∧ (vp_in x1 20 ∧ (vp_in x1 20 ∧ (Q (some (.int (x1 + 1))) (u1 (u1 (u1 (u1 (u1 σ43 277 (x1).toNatClampNeg x2) 278 (x1).toNatClampNeg x3) 279 (x1).toNatClampNeg ((u1 (u1 σ43 277 (x1).toNatClampNeg x2) 278 (x1).toNatClampNeg x3).1 245 58)) 280 (x1).toNatClampNeg (-4)) 281 (x1).toNatClampNeg 0))))))) ∧ (¬ (σ43.1 245 50) ≤ 0 → Q (some (.int x1)) σ43)))))) ∧ (¬ (σ28.1 245 48) = 3 → EvM (N + 4) mX10_wants [.ref 245, .int 0, .int 2] σ28 (fun r9 σ40 => r9 = none ∧ (EvM (N + 4) mX10_next [.ref 245] σ40 (fun r9 σ41 => r9 = none ∧ (((σ41.1 245 50) ≤ 0 → vp_in x1 20 ∧ (vp_in x1 20 ∧ (vp_in x1 20 ∧ (vp_in x1 20 ∧ (vp_in x1 20 ∧ (Q (some (.int (x1 + 1))) (u1 (u1 (u1 (u1 (u1 σ41 277 (x1).toNatClampNeg x2) 278 (x1).toNatClampNeg x3) 279 (x1).toNatClampNeg ((u1 (u1 σ41 277 (x1).toNatClampNeg x2) 278 (x1).toNatClampNeg x3).1 245 58)) 280 (x1).toNatClampNeg (-4)) 281 (x1).toNatClampNeg 0))))))) ∧ (¬ (σ41.1 245 50) ≤ 0 → Q (some (.int x1)) σ41))))))) ∧ (¬ (σ28.1 245 50) = 0 → EvM (N + 4) mX10_next [.ref 245] σ28 (fun r9 σ39 => r9 = none ∧ (((σ39.1 245 50) ≤ 0 → vp_in x1 20 ∧ (vp_in x1 20 ∧ (vp_in x1 20 ∧ (vp_in x1 20 ∧ (vp_in x1 20 ∧ (Q (some (.int (x1 + 1))) (u1 (u1 (u1 (u1 (u1 σ39 277 (x1).toNatClampNeg x2) 278 (x1).toNatClampNeg x3) 279 (x1).toNatClampNeg ((u1 (u1 σ39 277 (x1).toNatClampNeg x2) 278 (x1).toNatClampNeg x3).1 245 58)) 280 (x1).toNatClampNeg (-4)) 281 (x1).toNatClampNeg 0))))))) ∧ (¬ (σ39.1 245 50) ≤ 0 → Q (some (.int x1)) σ39)))))) ∧ (¬ (σ28.1 245 48) = 1 → ((σ28.1 245 50) = 0 → ((σ28.1 245 48) = 3 → EvM (N + 4) mX10_wants [.ref 245, .int 1, .int 2] σ28 (fun r9 σ37 => r9 = none ∧ (EvM (N + 4) mX10_next [.ref 245] σ37 (fun r9 σ38 => r9 = none ∧ (((σ38.1 245 50) ≤ 0 → vp_in x1 20 ∧ (vp_in x1 20 ∧ (vp_in x1 20 ∧ (vp_in x1 20 ∧ (vp_in x1 20 ∧ (Q (some (.int (x1 + 1))) (u1 (u1 (u1 (u1 (u1 σ38 277 (x1).toNatClampNeg x2) 278 (x1).toNatClampNeg x3) 279 (x1).toNatClampNeg ((u1 (u1 σ38 277 (x1).toNatClampNeg x2) 278 (x1).toNatClampNeg x3).1 245 58)) 280 (x1).toNatClampNeg (-4)) 281 (x1).toNatClampNeg 0))))))) ∧ (¬ (σ38.1 245 50) ≤ 0 → Q (some (.int x1)) σ38)))))) ∧ (¬ (σ28.1 245 48) = 3 → EvM (N + 4) mX10_wants [.ref 245, .int 0, .int 2] σ28 (fun r9 σ35 => r9 = none ∧ (EvM (N + 4) mX10_next [.ref 245] σ35 (fun r9 σ36 => r9 = none ∧ (((σ36.1 245 50) ≤ 0 → vp_in x1 20 ∧ (vp_in x1 20 ∧ (vp_in x1 20 ∧ (vp_in x1 20 ∧ (vp_in x1 20 ∧ (Q (some (.int (x1 + 1))) (u1 (u1 (u1 (u1 (u1 σ36 277 (x1).toNatClampNeg x2) 278 (x1).toNatClampNeg x3) 279 (x1).toNatClampNeg ((u1 (u1 σ36 277 (x1).toNatClampNeg x2) 278 (x1).toNatClampNeg x3).1 245 58)) 280 (x1).toNatClampNeg (-4)) 281 (x1).toNatClampNeg 0))))))) ∧ (¬ (σ36.1 245 50) ≤ 0 → Q (some (.int x1)) σ36))))))) ∧ (¬ (σ28.1 245 50) = 0 → EvM (N + 4) mX10_next [.ref 245] σ28 (fun r9 σ34 => r9 = none ∧ (((σ34.1 245 50) ≤ 0 → vp_in x1 20 ∧ (vp_in x1 20 ∧ (vp_in x1 20 ∧ (vp_in x1 20 ∧ (vp_in x1 20 ∧ (Q (some (.int (x1 + 1))) (u1 (u1 (u1 (u1 (u1 σ34 277 (x1).toNatClampNeg x2) 278 (x1).toNatClampNeg x3) 279 (x1).toNatClampNeg ((u1 (u1 σ34 277 (x1).toNatClampNeg x2) 278 (x1).toNatClampNeg x3).1 245 58)) 280 (x1).toNatClampNeg (-4)) 281 (x1).toNatClampNeg 0))))))) ∧ (¬ (σ34.1 245 50) ≤ 0 → Q (some (.int x1)) σ34)))))) ∧ (¬ (σ28.1 245 50) = 0 → ((σ28.1 245 50) = 0 → ((σ28.1 245 48) = 3 → EvM (N + 4) mX10_wants [.ref 245, .int 1, .int 2] σ28 (fun r9 σ32 => r9 = none ∧ (EvM (N + 4) mX10_next [.ref 245] σ32 (fun r9 σ33 => r9 = none ∧ (((σ33.1 245 50) ≤ 0 → vp_in x1 20 ∧ (vp_in x1 20 ∧ (vp_in x1 20 ∧ (vp_in x1 20 ∧ (vp_in x1 20 ∧ (Q (some (.int (x1 + 1))) (u1 (u1 (u1 (u1 (u1 σ33 277 (x1).toNatClampNeg x2) 278 (x1).toNatClampNeg x3) 279 (x1).toNatClampNeg ((u1 (u1 σ33 277 (x1).toNatClampNeg x2) 278 (x1).toNatClampNeg x3).1 245 58)) 280 (x1).toNatClampNeg (-4)) 281 (x1).toNatClampNeg 0))))))) ∧ (¬ (σ33.1 245 50) ≤ 0 → Q (some (.int x1)) σ33)))))) ∧ (¬ (σ28.1 245 48) = 3 → EvM (N + 4) mX10_wants [.ref 245, .int 0, .int 2] σ28 (fun r9 σ30 => r9 = none ∧ (EvM (N + 4) mX10_next [.ref 245] σ30 (fun r9 σ31 => r9 = none ∧ (((σ31.1 245 50) ≤ 0 → vp_in x1 20 ∧ (vp_in x1 20 ∧ (vp_in x1 20 ∧ (vp_in x1 20 ∧ (vp_in x1 20 ∧ (Q (some (.int (x1 + 1))) (u1 (u1 (u1 (u1 (u1 σ31 277 (x1).toNatClampNeg x2) 278 (x1).toNatClampNeg x3) 279 (x1).toNatClampNeg ((u1 (u1 σ31 277 (x1).toNatClampNeg x2) 278 (x1).toNatClampNeg x3).1 245 58)) 280 (x1).toNatClampNeg (-4)) 281 (x1).toNatClampNeg 0))))))) ∧ (¬ (σ31.1 245 50) ≤ 0 → Q (some (.int x1)) σ31))))))) ∧ (¬ (σ28.1 245 50) = 0 → EvM (N + 4) mX10_next [.ref 245] σ28 (fun r9 σ29 => r9 = none ∧ (((σ29.1 245 50) ≤ 0 → vp_in x1 20 ∧ (vp_in x1 20 ∧ (vp_in x1 20 ∧ (vp_in x1 20 ∧ (vp_in x1 20 ∧ (Q (some (.int (x1 + 1))) (u1 (u1 (u1 (u1 (u1 σ29 277 (x1).toNatClampNeg x2) 278 (x1).toNatClampNeg x3) 279 (x1).toNatClampNeg ((u1 (u1 σ29 277 (x1).toNatClampNeg x2) 278 (x1).toNatClampNeg x3).1 245 58)) 280 (x1).toNatClampNeg (-4)) 281 (x1).toNatClampNeg 0))))))) ∧ (¬ (σ29.1 245 50) ≤ 0 → Q (some (.int x1)) σ29)))))))) ∧ (¬ x1 ≤ x4 → ((σ.1 245 50) = 0 → vp_in x4 20 ∧ (((σ.1 277 (x4).toNatClampNeg) = x2 → vp_in x4 20 ∧ (((σ.1 278 (x4).toNatClampNeg) = x3 → vp_in x4 20 ∧ (((σ.1 280 (x4).toNatClampNeg) = (-4) → EvM (N + 4) mX10_wants [.ref 245, .int 0, .int 4] σ (fun r9 σ74 => r9 = none ∧ (KX10_readClaim_77 N σ74 Q x1 x2 x3 (x4 + 1)))) ∧ (¬ (σ.1 280 (x4).toNatClampNeg) = (-4) → EvM (N + 4) mX10_wants [.ref 245, .int 1, .int 4] σ (fun r9 σ75 => r9 = none ∧ (KX10_readClaim_77 N σ75 Q x1 x2 x3 (x4 + 1)))))) ∧ (¬ (σ.1 278 (x4).toNatClampNeg) = x3 → EvM (N + 4) mX10_wants [.ref 245, .int 1, .int 4] σ (fun r9 σ73 => r9 = none ∧ (KX10_readClaim_77 N σ73 Q x1 x2 x3 (x4 + 1)))))) ∧ (¬ (σ.1 277 (x4).toNatClampNeg) = x2 → EvM (N + 4) mX10_wants [.ref 245, .int 1, .int 4] σ (fun r9 σ72 => r9 = none ∧ (KX10_readClaim_77 N σ72 Q x1 x2 x3 (x4 + 1)))))) ∧ (¬ (σ.1 245 50) = 0 → EvM (N + 4) mX10_next [.ref 245] σ (fun r9 σ50 => r9 = none ∧ (((σ50.1 245 50) = 0 → ((σ50.1 245 48) = 1 → ((σ50.1 245 49) = 5 → EvM (N + 4) mX10_readOn [.ref 245, .int x1] σ50 (fun r9 σ66 => ∃ v66, r9 = some (.int v66) ∧ (((σ66.1 245 50) = 0 → ((σ66.1 245 48) = 3 → EvM (N + 4) mX10_wants [.ref 245, .int 1, .int 2] σ66 (fun r9 σ70 => r9 = none ∧ (EvM (N + 4) mX10_next [.ref 245] σ70 (fun r9 σ71 => r9 = none ∧ (((σ71.1 245 50) ≤ 0 → vp_in x1 20 ∧ (vp_in x1 20 ∧ (vp_in x1 20 ∧ (vp_in x1 20 ∧ (vp_in x1 20 ∧ (Q (some (.int (x1 + 1))) (u1 (u1 (u1 (u1 (u1 σ71 277 (x1).toNatClampNeg x2) 278 (x1).toNatClampNeg x3) 279 (x1).toNatClampNeg ((u1 (u1 σ71 277 (x1).toNatClampNeg x2) 278 (x1).toNatClampNeg x3).1 245 58)) 280 (x1).toNatClampNeg (-4)) 281 (x1).toNatClampNeg v66))))))) ∧ (¬ (σ71.1 245 50) ≤ 0 → Q (some (.int x1)) σ71)))))) ∧ (¬ (σ66.1 245 48) = 3 → EvM (N + 4) mX10_wants [.ref 245, .int 0, .int 2] σ66 (fun r9 σ68 => r9 = none ∧ (EvM (N + 4) mX10_next [.ref 245] σ68 (fun r9 σ69 => r9 = none ∧ (((σ69.1 245 50) ≤ 0 → vp_in x1 20 ∧ (vp_in x1 20 ∧ (vp_in x1 20 ∧ (vp_in x1 20 ∧ (vp_in x1 20 ∧ (Q (some (.int (x1 + 1))) (u1 (u1 (u1 (u1 (u1 σ69 277 (x1).toNatClampNeg x2) 278 (x1).toNatClampNeg x3) 279 (x1).toNatClampNeg ((u1 (u1 σ69 277 (x1).toNatClampNeg x2) 278 (x1).toNatClampNeg x3).1 245 58)) 280 (x1).toNatClampNeg (-4)) 281 (x1).toNatClampNeg v66))))))) ∧ (¬ (σ69.1 245 50) ≤ 0 → Q (some (.int x1)) σ69))))))) ∧ (¬ (σ66.1 245 50) = 0 → EvM (N + 4) mX10_next [.ref 245] σ66 (fun r9 σ67 => r9 = none ∧ (((σ67.1 245 50) ≤ 0 → vp_in x1 20 ∧ (vp_in x1 20 ∧ (vp_in x1 20 ∧ (vp_in x1 20 ∧ (vp_in x1 20 ∧ (Q (some (.int (x1 + 1))) (u1 (u1 (u1 (u1 (u1 σ67 277 (x1).toNatClampNeg x2) 278 (x1).toNatClampNeg x3) 279 (x1).toNatClampNeg ((u1 (u1 σ67 277 (x1).toNatClampNeg x2) 278 (x1).toNatClampNeg x3).1 245 58)) 280 (x1).toNatClampNeg (-4)) 281 (x1).toNatClampNeg v66))))))) ∧ (¬ (σ67.1 245 50) ≤ 0 → Q (some (.int x1)) σ67))))))) ∧ (¬ (σ50.1 245 49) = 5 → ((σ50.1 245 50) = 0 → ((σ50.1 245 48) = 3 → EvM (N + 4) mX10_wants [.ref 245, .int 1, .int 2] σ50 (fun r9 σ64 => r9 = none ∧ (EvM (N + 4) mX10_next [.ref 245] σ64 (fun r9 σ65 => r9 = none ∧ (((σ65.1 245 50) ≤ 0 → vp_in x1 20 ∧ (vp_in x1 20 ∧ (vp_in x1 20 ∧ (vp_in x1 20 ∧ (vp_in x1 20 ∧ (Q (some (.int (x1 + 1))) (u1 (u1 (u1 (u1 (u1 σ65 277 (x1).toNatClampNeg x2) 278 (x1).toNatClampNeg x3) 279 (x1).toNatClampNeg ((u1 (u1 σ65 277 (x1).toNatClampNeg x2) 278 (x1).toNatClampNeg x3).1 245 58)) 280 (x1).toNatClampNeg (-4)) 281 (x1).toNatClampNeg 0))))))) ∧ (¬ (σ65.1 245 50) ≤ 0 → Q (some (.int x1)) σ65)))))) ∧ (¬ (σ50.1 245 48) = 3 → EvM (N + 4) mX10_wants [.ref 245, .int 0, .int 2] σ50 (fun r9 σ62 => r9 = none ∧ (EvM (N + 4) mX10_next [.ref 245] σ62 (fun r9 σ63 => r9 = none ∧ (((σ63.1 245 50) ≤ 0 → vp_in x1 20 ∧ (vp_in x1 20 ∧ (vp_in x1 20 ∧ (vp_in x1 20 ∧ (vp_in x1 20 ∧ (Q (some (.int (x1 + 1))) (u1 (u1 (u1 (u1 (u1 σ63 277 (x1).toNatClampNeg x2) 278 (x1).toNatClampNeg x3) 279 (x1).toNatClampNeg ((u1 (u1 σ63 277 (x1).toNatClampNeg x2) 278 (x1).toNatClampNeg x3).1 245 58)) 280 (x1).toNatClampNeg (-4)) 281 (x1).toNatClampNeg 0))))))) ∧ (¬ (σ63.1 245 50) ≤ 0 → Q (some (.int x1)) σ63))))))) ∧ (¬ (σ50.1 245 50) = 0 → EvM (N + 4) mX10_next [.ref 245] σ50 (fun r9 σ61 => r9 = none ∧ (((σ61.1 245 50) ≤ 0 → vp_in x1 20 ∧ (vp_in x1 20 ∧ (vp_in x1 20 ∧ (vp_in x1 20 ∧ (vp_in x1 20 ∧ (Q (some (.int (x1 + 1))) (u1 (u1 (u1 (u1 (u1 σ61 277 (x1).toNatClampNeg x2) 278 (x1).toNatClampNeg x3) 279 (x1).toNatClampNeg ((u1 (u1 σ61 277 (x1).toNatClampNeg x2) 278 (x1).toNatClampNeg x3).1 245 58)) 280 (x1).toNatClampNeg (-4)) 281 (x1).toNatClampNeg 0))))))) ∧ (¬ (σ61.1 245 50) ≤ 0 → Q (some (.int x1)) σ61)))))) ∧ (¬ (σ50.1 245 48) = 1 → ((σ50.1 245 50) = 0 → ((σ50.1 245 48) = 3 → EvM (N + 4) mX10_wants [.ref 245, .int 1, .int 2] σ50 (fun r9 σ59 => r9 = none ∧ (EvM (N + 4) mX10_next [.ref 245] σ59 (fun r9 σ60 => r9 = none ∧ (((σ60.1 245 50) ≤ 0 → vp_in x1 20 ∧ (vp_in x1 20 ∧ (vp_in x1 20 ∧ (vp_in x1 20 ∧ (vp_in x1 20 ∧ (Q (some (.int (x1 + 1))) (u1 (u1 (u1 (u1 (u1 σ60 277 (x1).toNatClampNeg x2) 278 (x1).toNatClampNeg x3) 279 (x1).toNatClampNeg ((u1 (u1 σ60 277 (x1).toNatClampNeg x2) 278 (x1).toNatClampNeg x3).1 245 58)) 280 (x1).toNatClampNeg (-4)) 281 (x1).toNatClampNeg 0))))))) ∧ (¬ (σ60.1 245 50) ≤ 0 → Q (some (.int x1)) σ60)))))) ∧ (¬ (σ50.1 245 48) = 3 → EvM (N + 4) mX10_wants [.ref 245, .int 0, .int 2] σ50 (fun r9 σ57 => r9 = none ∧ (EvM (N + 4) mX10_next [.ref 245] σ57 (fun r9 σ58 => r9 = none ∧ (((σ58.1 245 50) ≤ 0 → vp_in x1 20 ∧ (vp_in x1 20 ∧ (vp_in x1 20 ∧ (vp_in x1 20 ∧ (vp_in x1 20 ∧ (Q (some (.int (x1 + 1))) (u1 (u1 (u1 (u1 (u1 σ58 277 (x1).toNatClampNeg x2) 278 (x1).toNatClampNeg x3) 279 (x1).toNatClampNeg ((u1 (u1 σ58 277 (x1).toNatClampNeg x2) 278 (x1).toNatClampNeg x3).1 245 58)) 280 (x1).toNatClampNeg (-4)) 281 (x1).toNatClampNeg 0))))))) ∧ (¬ (σ58.1 245 50) ≤ 0 → Q (some (.int x1)) σ58))))))) ∧ (¬ (σ50.1 245 50) = 0 → EvM (N + 4) mX10_next [.ref 245] σ50 (fun r9 σ56 => r9 = none ∧ (((σ56.1 245 50) ≤ 0 → vp_in x1 20 ∧ (vp_in x1 20 ∧ (vp_in x1 20 ∧ (vp_in x1 20 ∧ (vp_in x1 20 ∧ (Q (some (.int (x1 + 1))) (u1 (u1 (u1 (u1 (u1 σ56 277 (x1).toNatClampNeg x2) 278 (x1).toNatClampNeg x3) 279 (x1).toNatClampNeg ((u1 (u1 σ56 277 (x1).toNatClampNeg x2) 278 (x1).toNatClampNeg x3).1 245 58)) 280 (x1).toNatClampNeg (-4)) 281 (x1).toNatClampNeg 0))))))) ∧ (¬ (σ56.1 245 50) ≤ 0 → Q (some (.int x1)) σ56)))))) ∧ (¬ (σ50.1 245 50) = 0 → ((σ50.1 245 50) = 0 → ((σ50.1 245 48) = 3 → EvM (N + 4) mX10_wants [.ref 245, .int 1, .int 2] σ50 (fun r9 σ54 => r9 = none ∧ (EvM (N + 4) mX10_next [.ref 245] σ54 (fun r9 σ55 => r9 = none ∧ (((σ55.1 245 50) ≤ 0 → vp_in x1 20 ∧ (vp_in x1 20 ∧ (vp_in x1 20 ∧ (vp_in x1 20 ∧ (vp_in x1 20 ∧ (Q (some (.int (x1 + 1))) (u1 (u1 (u1 (u1 (u1 σ55 277 (x1).toNatClampNeg x2) 278 (x1).toNatClampNeg x3) 279 (x1).toNatClampNeg ((u1 (u1 σ55 277 (x1).toNatClampNeg x2) 278 (x1).toNatClampNeg x3).1 245 58)) 280 (x1).toNatClampNeg (-4)) 281 (x1).toNatClampNeg 0))))))) ∧ (¬ (σ55.1 245 50) ≤ 0 → Q (some (.int x1)) σ55)))))) ∧ (¬ (σ50.1 245 48) = 3 → EvM (N + 4) mX10_wants [.ref 245, .int 0, .int 2] σ50 (fun r9 σ52 => r9 = none ∧ (EvM (N + 4) mX10_next [.ref 245] σ52 (fun r9 σ53 => r9 = none ∧ (((σ53.1 245 50) ≤ 0 → vp_in x1 20 ∧ (vp_in x1 20 ∧ (vp_in x1 20 ∧ (vp_in x1 20 ∧ (vp_in x1 20 ∧ (Q (some (.int (x1 + 1))) (u1 (u1 (u1 (u1 (u1 σ53 277 (x1).toNatClampNeg x2) 278 (x1).toNatClampNeg x3) 279 (x1).toNatClampNeg ((u1 (u1 σ53 277 (x1).toNatClampNeg x2) 278 (x1).toNatClampNeg x3).1 245 58)) 280 (x1).toNatClampNeg (-4)) 281 (x1).toNatClampNeg 0))))))) ∧ (¬ (σ53.1 245 50) ≤ 0 → Q (some (.int x1)) σ53))))))) ∧ (¬ (σ50.1 245 50) = 0 → EvM (N + 4) mX10_next [.ref 245] σ50 (fun r9 σ51 => r9 = none ∧ (((σ51.1 245 50) ≤ 0 → vp_in x1 20 ∧ (vp_in x1 20 ∧ (vp_in x1 20 ∧ (vp_in x1 20 ∧ (vp_in x1 20 ∧ (Q (some (.int (x1 + 1))) (u1 (u1 (u1 (u1 (u1 σ51 277 (x1).toNatClampNeg x2) 278 (x1).toNatClampNeg x3) 279 (x1).toNatClampNeg ((u1 (u1 σ51 277 (x1).toNatClampNeg x2) 278 (x1).toNatClampNeg x3).1 245 58)) 280 (x1).toNatClampNeg (-4)) 281 (x1).toNatClampNeg 0))))))) ∧ (¬ (σ51.1 245 50) ≤ 0 → Q (some (.int x1)) σ51)))))))))) : KX10_readClaim_77 N σ Q x1 x2 x3 x4 := by
  refine ev_iload 4 dX10_readClaim_77 rfl ?_
  refine ev_iload_n 1 dX10_readClaim_79 rfl ?_
  refine ev_icmp_ge 140 dX10_readClaim_80 (by decide) (fun c9 => ?_) (fun c9 => ?_)
  · replace h := h.1 c9
    refine ev_aload_n 0 dX10_readClaim_140 rfl ?_
    refine ev_callV (M' := mX10_next) [] vX10_next G10 lay_245 dX10_readClaim_141 w_1682 rfl rfl (Nat.le_of_ble_eq_true rfl) h ?_
    rintro r9 σ28 ⟨rfl, h⟩
    refine ev_iconst 0 dX10_readClaim_144 (by decide) ?_
    refine ev_istore (lv' := [(4, .int 0), (0, .ref 245), (1, .int x1), (2, .int x2), (3, .int x3)]) dX10_readClaim_145 (Nat.le_of_ble_eq_true rfl) rfl ?_
    refine ev_aload_n 1 dX10_readClaim_147 rfl ?_
    refine ev_get G10 lay_245 (k := 50) rfl (Nat.le_of_ble_eq_true rfl) dX10_readClaim_148 w_1276 ?_
    refine ev_if_ne 177 dX10_readClaim_151 (by decide) (fun c9 => ?_) (fun c9 => ?_)
    · replace h := h.2 c9
      refine ev_aload_n 1 dX10_readClaim_177 rfl ?_
      refine ev_get G10 lay_245 (k := 50) rfl (Nat.le_of_ble_eq_true rfl) dX10_readClaim_178 w_1276 ?_
      refine ev_if_ne 202 dX10_readClaim_181 (by decide) (fun c9 => ?_) (fun c9 => ?_)
      · replace h := h.2 c9
        refine ev_aload_n 1 dX10_readClaim_202 rfl ?_
        refine ev_callV (M' := mX10_next) [] vX10_next G10 lay_245 dX10_readClaim_203 w_1682 rfl rfl (Nat.le_of_ble_eq_true rfl) h ?_
        rintro r9 σ29 ⟨rfl, h⟩
        refine ev_aload_n 1 dX10_readClaim_206 rfl ?_
        refine ev_get G10 lay_245 (k := 50) rfl (Nat.le_of_ble_eq_true rfl) dX10_readClaim_207 w_1276 ?_
        refine ev_if_le 215 dX10_readClaim_210 (by decide) (fun c9 => ?_) (fun c9 => ?_)
        · replace h := h.1 c9
          refine ev_aload_n 1 dX10_readClaim_215 rfl ?_
          refine ev_getR (r := 277) G10 lay_245 (k := 53) rfl (Nat.le_of_ble_eq_true rfl) dX10_readClaim_216 w_1279 ?_
          refine ev_iload_n 2 dX10_readClaim_219 rfl ?_
          refine ev_iload_n 3 dX10_readClaim_220 rfl ?_
          have hb221 := h.1
          replace h := h.2
          refine ev_iast lay_277 (Nat.le_of_ble_eq_true rfl) hb221 dX10_readClaim_221 ?_
          refine ev_aload_n 1 dX10_readClaim_222 rfl ?_
          refine ev_getR (r := 278) G10 lay_245 (k := 54) rfl (Nat.le_of_ble_eq_true rfl) dX10_readClaim_223 w_1280 ?_
          refine ev_iload_n 2 dX10_readClaim_226 rfl ?_
          refine ev_iload_n 4 dX10_readClaim_227 rfl ?_
          have hb228 := h.1
          replace h := h.2
          refine ev_iast lay_278 (Nat.le_of_ble_eq_true rfl) hb228 dX10_readClaim_228 ?_
          refine ev_aload_n 1 dX10_readClaim_229 rfl ?_
          refine ev_getR (r := 279) G10 lay_245 (k := 55) rfl (Nat.le_of_ble_eq_true rfl) dX10_readClaim_230 w_1281 ?_
          refine ev_iload_n 2 dX10_readClaim_233 rfl ?_
          refine ev_aload_n 1 dX10_readClaim_234 rfl ?_
          refine ev_get G10 lay_245 (k := 58) rfl (Nat.le_of_ble_eq_true rfl) dX10_readClaim_235 w_1284 ?_
          have hb238 := h.1
          replace h := h.2
          refine ev_iast lay_279 (Nat.le_of_ble_eq_true rfl) hb238 dX10_readClaim_238 ?_
          refine ev_aload_n 1 dX10_readClaim_239 rfl ?_
          refine ev_getR (r := 280) G10 lay_245 (k := 56) rfl (Nat.le_of_ble_eq_true rfl) dX10_readClaim_240 w_1282 ?_
          refine ev_iload_n 2 dX10_readClaim_243 rfl ?_
          refine ev_bipush (-4) dX10_readClaim_244 (by decide) ?_
          have hb246 := h.1
          replace h := h.2
          refine ev_iast lay_280 (Nat.le_of_ble_eq_true rfl) hb246 dX10_readClaim_246 ?_
          refine ev_aload_n 1 dX10_readClaim_247 rfl ?_
          refine ev_getR (r := 281) G10 lay_245 (k := 57) rfl (Nat.le_of_ble_eq_true rfl) dX10_readClaim_248 w_1283 ?_
          refine ev_iload_n 2 dX10_readClaim_251 rfl ?_
          refine ev_iload 0 dX10_readClaim_252 rfl ?_
          have hb254 := h.1
          replace h := h.2
          refine ev_iast lay_281 (Nat.le_of_ble_eq_true rfl) hb254 dX10_readClaim_254 ?_
          refine ev_iload_n 2 dX10_readClaim_255 rfl ?_
          refine ev_iconst 1 dX10_readClaim_256 (by decide) ?_
          refine ev_iadd dX10_readClaim_257 ?_
          exact ev_iret rfl dX10_readClaim_258 h
        · replace h := h.2 c9
          refine ev_iload_n 2 dX10_readClaim_213 rfl ?_
          exact ev_iret rfl dX10_readClaim_214 h
      · replace h := h.1 c9
        refine ev_aload_n 1 dX10_readClaim_184 rfl ?_
        refine ev_aload_n 1 dX10_readClaim_185 rfl ?_
        refine ev_get G10 lay_245 (k := 48) rfl (Nat.le_of_ble_eq_true rfl) dX10_readClaim_186 w_1274 ?_
        refine ev_iconst 3 dX10_readClaim_189 (by decide) ?_
        refine ev_icmp_ne 197 dX10_readClaim_190 (by decide) (fun c9 => ?_) (fun c9 => ?_)
        · replace h := h.2 c9
          refine ev_iconst 0 dX10_readClaim_197 (by decide) ?_
          refine ev_iconst 2 dX10_readClaim_198 (by decide) ?_
          refine ev_callV (M' := mX10_wants) [.int 0, .int 2] vX10_wants G10 lay_245 dX10_readClaim_199 w_1700 rfl rfl (Nat.le_of_ble_eq_true rfl) h ?_
          rintro r9 σ30 ⟨rfl, h⟩
          refine ev_aload_n 1 dX10_readClaim_202 rfl ?_
          refine ev_callV (M' := mX10_next) [] vX10_next G10 lay_245 dX10_readClaim_203 w_1682 rfl rfl (Nat.le_of_ble_eq_true rfl) h ?_
          rintro r9 σ31 ⟨rfl, h⟩
          refine ev_aload_n 1 dX10_readClaim_206 rfl ?_
          refine ev_get G10 lay_245 (k := 50) rfl (Nat.le_of_ble_eq_true rfl) dX10_readClaim_207 w_1276 ?_
          refine ev_if_le 215 dX10_readClaim_210 (by decide) (fun c9 => ?_) (fun c9 => ?_)
          · replace h := h.1 c9
            refine ev_aload_n 1 dX10_readClaim_215 rfl ?_
            refine ev_getR (r := 277) G10 lay_245 (k := 53) rfl (Nat.le_of_ble_eq_true rfl) dX10_readClaim_216 w_1279 ?_
            refine ev_iload_n 2 dX10_readClaim_219 rfl ?_
            refine ev_iload_n 3 dX10_readClaim_220 rfl ?_
            have hb221 := h.1
            replace h := h.2
            refine ev_iast lay_277 (Nat.le_of_ble_eq_true rfl) hb221 dX10_readClaim_221 ?_
            refine ev_aload_n 1 dX10_readClaim_222 rfl ?_
            refine ev_getR (r := 278) G10 lay_245 (k := 54) rfl (Nat.le_of_ble_eq_true rfl) dX10_readClaim_223 w_1280 ?_
            refine ev_iload_n 2 dX10_readClaim_226 rfl ?_
            refine ev_iload_n 4 dX10_readClaim_227 rfl ?_
            have hb228 := h.1
            replace h := h.2
            refine ev_iast lay_278 (Nat.le_of_ble_eq_true rfl) hb228 dX10_readClaim_228 ?_
            refine ev_aload_n 1 dX10_readClaim_229 rfl ?_
            refine ev_getR (r := 279) G10 lay_245 (k := 55) rfl (Nat.le_of_ble_eq_true rfl) dX10_readClaim_230 w_1281 ?_
            refine ev_iload_n 2 dX10_readClaim_233 rfl ?_
            refine ev_aload_n 1 dX10_readClaim_234 rfl ?_
            refine ev_get G10 lay_245 (k := 58) rfl (Nat.le_of_ble_eq_true rfl) dX10_readClaim_235 w_1284 ?_
            have hb238 := h.1
            replace h := h.2
            refine ev_iast lay_279 (Nat.le_of_ble_eq_true rfl) hb238 dX10_readClaim_238 ?_
            refine ev_aload_n 1 dX10_readClaim_239 rfl ?_
            refine ev_getR (r := 280) G10 lay_245 (k := 56) rfl (Nat.le_of_ble_eq_true rfl) dX10_readClaim_240 w_1282 ?_
            refine ev_iload_n 2 dX10_readClaim_243 rfl ?_
            refine ev_bipush (-4) dX10_readClaim_244 (by decide) ?_
            have hb246 := h.1
            replace h := h.2
            refine ev_iast lay_280 (Nat.le_of_ble_eq_true rfl) hb246 dX10_readClaim_246 ?_
            refine ev_aload_n 1 dX10_readClaim_247 rfl ?_
            refine ev_getR (r := 281) G10 lay_245 (k := 57) rfl (Nat.le_of_ble_eq_true rfl) dX10_readClaim_248 w_1283 ?_
            refine ev_iload_n 2 dX10_readClaim_251 rfl ?_
            refine ev_iload 0 dX10_readClaim_252 rfl ?_
            have hb254 := h.1
            replace h := h.2
            refine ev_iast lay_281 (Nat.le_of_ble_eq_true rfl) hb254 dX10_readClaim_254 ?_
            refine ev_iload_n 2 dX10_readClaim_255 rfl ?_
            refine ev_iconst 1 dX10_readClaim_256 (by decide) ?_
            refine ev_iadd dX10_readClaim_257 ?_
            exact ev_iret rfl dX10_readClaim_258 h
          · replace h := h.2 c9
            refine ev_iload_n 2 dX10_readClaim_213 rfl ?_
            exact ev_iret rfl dX10_readClaim_214 h
        · replace h := h.1 c9
          refine ev_iconst 1 dX10_readClaim_193 (by decide) ?_
          refine ev_goto 198 dX10_readClaim_194 (by decide) ?_
          refine ev_iconst 2 dX10_readClaim_198 (by decide) ?_
          refine ev_callV (M' := mX10_wants) [.int 1, .int 2] vX10_wants G10 lay_245 dX10_readClaim_199 w_1700 rfl rfl (Nat.le_of_ble_eq_true rfl) h ?_
          rintro r9 σ32 ⟨rfl, h⟩
          refine ev_aload_n 1 dX10_readClaim_202 rfl ?_
          refine ev_callV (M' := mX10_next) [] vX10_next G10 lay_245 dX10_readClaim_203 w_1682 rfl rfl (Nat.le_of_ble_eq_true rfl) h ?_
          rintro r9 σ33 ⟨rfl, h⟩
          refine ev_aload_n 1 dX10_readClaim_206 rfl ?_
          refine ev_get G10 lay_245 (k := 50) rfl (Nat.le_of_ble_eq_true rfl) dX10_readClaim_207 w_1276 ?_
          refine ev_if_le 215 dX10_readClaim_210 (by decide) (fun c9 => ?_) (fun c9 => ?_)
          · replace h := h.1 c9
            refine ev_aload_n 1 dX10_readClaim_215 rfl ?_
            refine ev_getR (r := 277) G10 lay_245 (k := 53) rfl (Nat.le_of_ble_eq_true rfl) dX10_readClaim_216 w_1279 ?_
            refine ev_iload_n 2 dX10_readClaim_219 rfl ?_
            refine ev_iload_n 3 dX10_readClaim_220 rfl ?_
            have hb221 := h.1
            replace h := h.2
            refine ev_iast lay_277 (Nat.le_of_ble_eq_true rfl) hb221 dX10_readClaim_221 ?_
            refine ev_aload_n 1 dX10_readClaim_222 rfl ?_
            refine ev_getR (r := 278) G10 lay_245 (k := 54) rfl (Nat.le_of_ble_eq_true rfl) dX10_readClaim_223 w_1280 ?_
            refine ev_iload_n 2 dX10_readClaim_226 rfl ?_
            refine ev_iload_n 4 dX10_readClaim_227 rfl ?_
            have hb228 := h.1
            replace h := h.2
            refine ev_iast lay_278 (Nat.le_of_ble_eq_true rfl) hb228 dX10_readClaim_228 ?_
            refine ev_aload_n 1 dX10_readClaim_229 rfl ?_
            refine ev_getR (r := 279) G10 lay_245 (k := 55) rfl (Nat.le_of_ble_eq_true rfl) dX10_readClaim_230 w_1281 ?_
            refine ev_iload_n 2 dX10_readClaim_233 rfl ?_
            refine ev_aload_n 1 dX10_readClaim_234 rfl ?_
            refine ev_get G10 lay_245 (k := 58) rfl (Nat.le_of_ble_eq_true rfl) dX10_readClaim_235 w_1284 ?_
            have hb238 := h.1
            replace h := h.2
            refine ev_iast lay_279 (Nat.le_of_ble_eq_true rfl) hb238 dX10_readClaim_238 ?_
            refine ev_aload_n 1 dX10_readClaim_239 rfl ?_
            refine ev_getR (r := 280) G10 lay_245 (k := 56) rfl (Nat.le_of_ble_eq_true rfl) dX10_readClaim_240 w_1282 ?_
            refine ev_iload_n 2 dX10_readClaim_243 rfl ?_
            refine ev_bipush (-4) dX10_readClaim_244 (by decide) ?_
            have hb246 := h.1
            replace h := h.2
            refine ev_iast lay_280 (Nat.le_of_ble_eq_true rfl) hb246 dX10_readClaim_246 ?_
            refine ev_aload_n 1 dX10_readClaim_247 rfl ?_
            refine ev_getR (r := 281) G10 lay_245 (k := 57) rfl (Nat.le_of_ble_eq_true rfl) dX10_readClaim_248 w_1283 ?_
            refine ev_iload_n 2 dX10_readClaim_251 rfl ?_
            refine ev_iload 0 dX10_readClaim_252 rfl ?_
            have hb254 := h.1
            replace h := h.2
            refine ev_iast lay_281 (Nat.le_of_ble_eq_true rfl) hb254 dX10_readClaim_254 ?_
            refine ev_iload_n 2 dX10_readClaim_255 rfl ?_
            refine ev_iconst 1 dX10_readClaim_256 (by decide) ?_
            refine ev_iadd dX10_readClaim_257 ?_
            exact ev_iret rfl dX10_readClaim_258 h
          · replace h := h.2 c9
            refine ev_iload_n 2 dX10_readClaim_213 rfl ?_
            exact ev_iret rfl dX10_readClaim_214 h
    · replace h := h.1 c9
      refine ev_aload_n 1 dX10_readClaim_154 rfl ?_
      refine ev_get G10 lay_245 (k := 48) rfl (Nat.le_of_ble_eq_true rfl) dX10_readClaim_155 w_1274 ?_
      refine ev_iconst 1 dX10_readClaim_158 (by decide) ?_
      refine ev_icmp_ne 177 dX10_readClaim_159 (by decide) (fun c9 => ?_) (fun c9 => ?_)
      · replace h := h.2 c9
        refine ev_aload_n 1 dX10_readClaim_177 rfl ?_
        refine ev_get G10 lay_245 (k := 50) rfl (Nat.le_of_ble_eq_true rfl) dX10_readClaim_178 w_1276 ?_
        refine ev_if_ne 202 dX10_readClaim_181 (by decide) (fun c9 => ?_) (fun c9 => ?_)
        · replace h := h.2 c9
          refine ev_aload_n 1 dX10_readClaim_202 rfl ?_
          refine ev_callV (M' := mX10_next) [] vX10_next G10 lay_245 dX10_readClaim_203 w_1682 rfl rfl (Nat.le_of_ble_eq_true rfl) h ?_
          rintro r9 σ34 ⟨rfl, h⟩
          refine ev_aload_n 1 dX10_readClaim_206 rfl ?_
          refine ev_get G10 lay_245 (k := 50) rfl (Nat.le_of_ble_eq_true rfl) dX10_readClaim_207 w_1276 ?_
          refine ev_if_le 215 dX10_readClaim_210 (by decide) (fun c9 => ?_) (fun c9 => ?_)
          · replace h := h.1 c9
            refine ev_aload_n 1 dX10_readClaim_215 rfl ?_
            refine ev_getR (r := 277) G10 lay_245 (k := 53) rfl (Nat.le_of_ble_eq_true rfl) dX10_readClaim_216 w_1279 ?_
            refine ev_iload_n 2 dX10_readClaim_219 rfl ?_
            refine ev_iload_n 3 dX10_readClaim_220 rfl ?_
            have hb221 := h.1
            replace h := h.2
            refine ev_iast lay_277 (Nat.le_of_ble_eq_true rfl) hb221 dX10_readClaim_221 ?_
            refine ev_aload_n 1 dX10_readClaim_222 rfl ?_
            refine ev_getR (r := 278) G10 lay_245 (k := 54) rfl (Nat.le_of_ble_eq_true rfl) dX10_readClaim_223 w_1280 ?_
            refine ev_iload_n 2 dX10_readClaim_226 rfl ?_
            refine ev_iload_n 4 dX10_readClaim_227 rfl ?_
            have hb228 := h.1
            replace h := h.2
            refine ev_iast lay_278 (Nat.le_of_ble_eq_true rfl) hb228 dX10_readClaim_228 ?_
            refine ev_aload_n 1 dX10_readClaim_229 rfl ?_
            refine ev_getR (r := 279) G10 lay_245 (k := 55) rfl (Nat.le_of_ble_eq_true rfl) dX10_readClaim_230 w_1281 ?_
            refine ev_iload_n 2 dX10_readClaim_233 rfl ?_
            refine ev_aload_n 1 dX10_readClaim_234 rfl ?_
            refine ev_get G10 lay_245 (k := 58) rfl (Nat.le_of_ble_eq_true rfl) dX10_readClaim_235 w_1284 ?_
            have hb238 := h.1
            replace h := h.2
            refine ev_iast lay_279 (Nat.le_of_ble_eq_true rfl) hb238 dX10_readClaim_238 ?_
            refine ev_aload_n 1 dX10_readClaim_239 rfl ?_
            refine ev_getR (r := 280) G10 lay_245 (k := 56) rfl (Nat.le_of_ble_eq_true rfl) dX10_readClaim_240 w_1282 ?_
            refine ev_iload_n 2 dX10_readClaim_243 rfl ?_
            refine ev_bipush (-4) dX10_readClaim_244 (by decide) ?_
            have hb246 := h.1
            replace h := h.2
            refine ev_iast lay_280 (Nat.le_of_ble_eq_true rfl) hb246 dX10_readClaim_246 ?_
            refine ev_aload_n 1 dX10_readClaim_247 rfl ?_
            refine ev_getR (r := 281) G10 lay_245 (k := 57) rfl (Nat.le_of_ble_eq_true rfl) dX10_readClaim_248 w_1283 ?_
            refine ev_iload_n 2 dX10_readClaim_251 rfl ?_
            refine ev_iload 0 dX10_readClaim_252 rfl ?_
            have hb254 := h.1
            replace h := h.2
            refine ev_iast lay_281 (Nat.le_of_ble_eq_true rfl) hb254 dX10_readClaim_254 ?_
            refine ev_iload_n 2 dX10_readClaim_255 rfl ?_
            refine ev_iconst 1 dX10_readClaim_256 (by decide) ?_
            refine ev_iadd dX10_readClaim_257 ?_
            exact ev_iret rfl dX10_readClaim_258 h
          · replace h := h.2 c9
            refine ev_iload_n 2 dX10_readClaim_213 rfl ?_
            exact ev_iret rfl dX10_readClaim_214 h
        · replace h := h.1 c9
          refine ev_aload_n 1 dX10_readClaim_184 rfl ?_
          refine ev_aload_n 1 dX10_readClaim_185 rfl ?_
          refine ev_get G10 lay_245 (k := 48) rfl (Nat.le_of_ble_eq_true rfl) dX10_readClaim_186 w_1274 ?_
          refine ev_iconst 3 dX10_readClaim_189 (by decide) ?_
          refine ev_icmp_ne 197 dX10_readClaim_190 (by decide) (fun c9 => ?_) (fun c9 => ?_)
          · replace h := h.2 c9
            refine ev_iconst 0 dX10_readClaim_197 (by decide) ?_
            refine ev_iconst 2 dX10_readClaim_198 (by decide) ?_
            refine ev_callV (M' := mX10_wants) [.int 0, .int 2] vX10_wants G10 lay_245 dX10_readClaim_199 w_1700 rfl rfl (Nat.le_of_ble_eq_true rfl) h ?_
            rintro r9 σ35 ⟨rfl, h⟩
            refine ev_aload_n 1 dX10_readClaim_202 rfl ?_
            refine ev_callV (M' := mX10_next) [] vX10_next G10 lay_245 dX10_readClaim_203 w_1682 rfl rfl (Nat.le_of_ble_eq_true rfl) h ?_
            rintro r9 σ36 ⟨rfl, h⟩
            refine ev_aload_n 1 dX10_readClaim_206 rfl ?_
            refine ev_get G10 lay_245 (k := 50) rfl (Nat.le_of_ble_eq_true rfl) dX10_readClaim_207 w_1276 ?_
            refine ev_if_le 215 dX10_readClaim_210 (by decide) (fun c9 => ?_) (fun c9 => ?_)
            · replace h := h.1 c9
              refine ev_aload_n 1 dX10_readClaim_215 rfl ?_
              refine ev_getR (r := 277) G10 lay_245 (k := 53) rfl (Nat.le_of_ble_eq_true rfl) dX10_readClaim_216 w_1279 ?_
              refine ev_iload_n 2 dX10_readClaim_219 rfl ?_
              refine ev_iload_n 3 dX10_readClaim_220 rfl ?_
              have hb221 := h.1
              replace h := h.2
              refine ev_iast lay_277 (Nat.le_of_ble_eq_true rfl) hb221 dX10_readClaim_221 ?_
              refine ev_aload_n 1 dX10_readClaim_222 rfl ?_
              refine ev_getR (r := 278) G10 lay_245 (k := 54) rfl (Nat.le_of_ble_eq_true rfl) dX10_readClaim_223 w_1280 ?_
              refine ev_iload_n 2 dX10_readClaim_226 rfl ?_
              refine ev_iload_n 4 dX10_readClaim_227 rfl ?_
              have hb228 := h.1
              replace h := h.2
              refine ev_iast lay_278 (Nat.le_of_ble_eq_true rfl) hb228 dX10_readClaim_228 ?_
              refine ev_aload_n 1 dX10_readClaim_229 rfl ?_
              refine ev_getR (r := 279) G10 lay_245 (k := 55) rfl (Nat.le_of_ble_eq_true rfl) dX10_readClaim_230 w_1281 ?_
              refine ev_iload_n 2 dX10_readClaim_233 rfl ?_
              refine ev_aload_n 1 dX10_readClaim_234 rfl ?_
              refine ev_get G10 lay_245 (k := 58) rfl (Nat.le_of_ble_eq_true rfl) dX10_readClaim_235 w_1284 ?_
              have hb238 := h.1
              replace h := h.2
              refine ev_iast lay_279 (Nat.le_of_ble_eq_true rfl) hb238 dX10_readClaim_238 ?_
              refine ev_aload_n 1 dX10_readClaim_239 rfl ?_
              refine ev_getR (r := 280) G10 lay_245 (k := 56) rfl (Nat.le_of_ble_eq_true rfl) dX10_readClaim_240 w_1282 ?_
              refine ev_iload_n 2 dX10_readClaim_243 rfl ?_
              refine ev_bipush (-4) dX10_readClaim_244 (by decide) ?_
              have hb246 := h.1
              replace h := h.2
              refine ev_iast lay_280 (Nat.le_of_ble_eq_true rfl) hb246 dX10_readClaim_246 ?_
              refine ev_aload_n 1 dX10_readClaim_247 rfl ?_
              refine ev_getR (r := 281) G10 lay_245 (k := 57) rfl (Nat.le_of_ble_eq_true rfl) dX10_readClaim_248 w_1283 ?_
              refine ev_iload_n 2 dX10_readClaim_251 rfl ?_
              refine ev_iload 0 dX10_readClaim_252 rfl ?_
              have hb254 := h.1
              replace h := h.2
              refine ev_iast lay_281 (Nat.le_of_ble_eq_true rfl) hb254 dX10_readClaim_254 ?_
              refine ev_iload_n 2 dX10_readClaim_255 rfl ?_
              refine ev_iconst 1 dX10_readClaim_256 (by decide) ?_
              refine ev_iadd dX10_readClaim_257 ?_
              exact ev_iret rfl dX10_readClaim_258 h
            · replace h := h.2 c9
              refine ev_iload_n 2 dX10_readClaim_213 rfl ?_
              exact ev_iret rfl dX10_readClaim_214 h
          · replace h := h.1 c9
            refine ev_iconst 1 dX10_readClaim_193 (by decide) ?_
            refine ev_goto 198 dX10_readClaim_194 (by decide) ?_
            refine ev_iconst 2 dX10_readClaim_198 (by decide) ?_
            refine ev_callV (M' := mX10_wants) [.int 1, .int 2] vX10_wants G10 lay_245 dX10_readClaim_199 w_1700 rfl rfl (Nat.le_of_ble_eq_true rfl) h ?_
            rintro r9 σ37 ⟨rfl, h⟩
            refine ev_aload_n 1 dX10_readClaim_202 rfl ?_
            refine ev_callV (M' := mX10_next) [] vX10_next G10 lay_245 dX10_readClaim_203 w_1682 rfl rfl (Nat.le_of_ble_eq_true rfl) h ?_
            rintro r9 σ38 ⟨rfl, h⟩
            refine ev_aload_n 1 dX10_readClaim_206 rfl ?_
            refine ev_get G10 lay_245 (k := 50) rfl (Nat.le_of_ble_eq_true rfl) dX10_readClaim_207 w_1276 ?_
            refine ev_if_le 215 dX10_readClaim_210 (by decide) (fun c9 => ?_) (fun c9 => ?_)
            · replace h := h.1 c9
              refine ev_aload_n 1 dX10_readClaim_215 rfl ?_
              refine ev_getR (r := 277) G10 lay_245 (k := 53) rfl (Nat.le_of_ble_eq_true rfl) dX10_readClaim_216 w_1279 ?_
              refine ev_iload_n 2 dX10_readClaim_219 rfl ?_
              refine ev_iload_n 3 dX10_readClaim_220 rfl ?_
              have hb221 := h.1
              replace h := h.2
              refine ev_iast lay_277 (Nat.le_of_ble_eq_true rfl) hb221 dX10_readClaim_221 ?_
              refine ev_aload_n 1 dX10_readClaim_222 rfl ?_
              refine ev_getR (r := 278) G10 lay_245 (k := 54) rfl (Nat.le_of_ble_eq_true rfl) dX10_readClaim_223 w_1280 ?_
              refine ev_iload_n 2 dX10_readClaim_226 rfl ?_
              refine ev_iload_n 4 dX10_readClaim_227 rfl ?_
              have hb228 := h.1
              replace h := h.2
              refine ev_iast lay_278 (Nat.le_of_ble_eq_true rfl) hb228 dX10_readClaim_228 ?_
              refine ev_aload_n 1 dX10_readClaim_229 rfl ?_
              refine ev_getR (r := 279) G10 lay_245 (k := 55) rfl (Nat.le_of_ble_eq_true rfl) dX10_readClaim_230 w_1281 ?_
              refine ev_iload_n 2 dX10_readClaim_233 rfl ?_
              refine ev_aload_n 1 dX10_readClaim_234 rfl ?_
              refine ev_get G10 lay_245 (k := 58) rfl (Nat.le_of_ble_eq_true rfl) dX10_readClaim_235 w_1284 ?_
              have hb238 := h.1
              replace h := h.2
              refine ev_iast lay_279 (Nat.le_of_ble_eq_true rfl) hb238 dX10_readClaim_238 ?_
              refine ev_aload_n 1 dX10_readClaim_239 rfl ?_
              refine ev_getR (r := 280) G10 lay_245 (k := 56) rfl (Nat.le_of_ble_eq_true rfl) dX10_readClaim_240 w_1282 ?_
              refine ev_iload_n 2 dX10_readClaim_243 rfl ?_
              refine ev_bipush (-4) dX10_readClaim_244 (by decide) ?_
              have hb246 := h.1
              replace h := h.2
              refine ev_iast lay_280 (Nat.le_of_ble_eq_true rfl) hb246 dX10_readClaim_246 ?_
              refine ev_aload_n 1 dX10_readClaim_247 rfl ?_
              refine ev_getR (r := 281) G10 lay_245 (k := 57) rfl (Nat.le_of_ble_eq_true rfl) dX10_readClaim_248 w_1283 ?_
              refine ev_iload_n 2 dX10_readClaim_251 rfl ?_
              refine ev_iload 0 dX10_readClaim_252 rfl ?_
              have hb254 := h.1
              replace h := h.2
              refine ev_iast lay_281 (Nat.le_of_ble_eq_true rfl) hb254 dX10_readClaim_254 ?_
              refine ev_iload_n 2 dX10_readClaim_255 rfl ?_
              refine ev_iconst 1 dX10_readClaim_256 (by decide) ?_
              refine ev_iadd dX10_readClaim_257 ?_
              exact ev_iret rfl dX10_readClaim_258 h
            · replace h := h.2 c9
              refine ev_iload_n 2 dX10_readClaim_213 rfl ?_
              exact ev_iret rfl dX10_readClaim_214 h
      · replace h := h.1 c9
        refine ev_aload_n 1 dX10_readClaim_162 rfl ?_
        refine ev_get G10 lay_245 (k := 49) rfl (Nat.le_of_ble_eq_true rfl) dX10_readClaim_163 w_1275 ?_
        refine ev_iconst 5 dX10_readClaim_166 (by decide) ?_
        refine ev_icmp_ne 177 dX10_readClaim_167 (by decide) (fun c9 => ?_) (fun c9 => ?_)
        · replace h := h.2 c9
          refine ev_aload_n 1 dX10_readClaim_177 rfl ?_
          refine ev_get G10 lay_245 (k := 50) rfl (Nat.le_of_ble_eq_true rfl) dX10_readClaim_178 w_1276 ?_
          refine ev_if_ne 202 dX10_readClaim_181 (by decide) (fun c9 => ?_) (fun c9 => ?_)
          · replace h := h.2 c9
            refine ev_aload_n 1 dX10_readClaim_202 rfl ?_
            refine ev_callV (M' := mX10_next) [] vX10_next G10 lay_245 dX10_readClaim_203 w_1682 rfl rfl (Nat.le_of_ble_eq_true rfl) h ?_
            rintro r9 σ39 ⟨rfl, h⟩
            refine ev_aload_n 1 dX10_readClaim_206 rfl ?_
            refine ev_get G10 lay_245 (k := 50) rfl (Nat.le_of_ble_eq_true rfl) dX10_readClaim_207 w_1276 ?_
            refine ev_if_le 215 dX10_readClaim_210 (by decide) (fun c9 => ?_) (fun c9 => ?_)
            · replace h := h.1 c9
              refine ev_aload_n 1 dX10_readClaim_215 rfl ?_
              refine ev_getR (r := 277) G10 lay_245 (k := 53) rfl (Nat.le_of_ble_eq_true rfl) dX10_readClaim_216 w_1279 ?_
              refine ev_iload_n 2 dX10_readClaim_219 rfl ?_
              refine ev_iload_n 3 dX10_readClaim_220 rfl ?_
              have hb221 := h.1
              replace h := h.2
              refine ev_iast lay_277 (Nat.le_of_ble_eq_true rfl) hb221 dX10_readClaim_221 ?_
              refine ev_aload_n 1 dX10_readClaim_222 rfl ?_
              refine ev_getR (r := 278) G10 lay_245 (k := 54) rfl (Nat.le_of_ble_eq_true rfl) dX10_readClaim_223 w_1280 ?_
              refine ev_iload_n 2 dX10_readClaim_226 rfl ?_
              refine ev_iload_n 4 dX10_readClaim_227 rfl ?_
              have hb228 := h.1
              replace h := h.2
              refine ev_iast lay_278 (Nat.le_of_ble_eq_true rfl) hb228 dX10_readClaim_228 ?_
              refine ev_aload_n 1 dX10_readClaim_229 rfl ?_
              refine ev_getR (r := 279) G10 lay_245 (k := 55) rfl (Nat.le_of_ble_eq_true rfl) dX10_readClaim_230 w_1281 ?_
              refine ev_iload_n 2 dX10_readClaim_233 rfl ?_
              refine ev_aload_n 1 dX10_readClaim_234 rfl ?_
              refine ev_get G10 lay_245 (k := 58) rfl (Nat.le_of_ble_eq_true rfl) dX10_readClaim_235 w_1284 ?_
              have hb238 := h.1
              replace h := h.2
              refine ev_iast lay_279 (Nat.le_of_ble_eq_true rfl) hb238 dX10_readClaim_238 ?_
              refine ev_aload_n 1 dX10_readClaim_239 rfl ?_
              refine ev_getR (r := 280) G10 lay_245 (k := 56) rfl (Nat.le_of_ble_eq_true rfl) dX10_readClaim_240 w_1282 ?_
              refine ev_iload_n 2 dX10_readClaim_243 rfl ?_
              refine ev_bipush (-4) dX10_readClaim_244 (by decide) ?_
              have hb246 := h.1
              replace h := h.2
              refine ev_iast lay_280 (Nat.le_of_ble_eq_true rfl) hb246 dX10_readClaim_246 ?_
              refine ev_aload_n 1 dX10_readClaim_247 rfl ?_
              refine ev_getR (r := 281) G10 lay_245 (k := 57) rfl (Nat.le_of_ble_eq_true rfl) dX10_readClaim_248 w_1283 ?_
              refine ev_iload_n 2 dX10_readClaim_251 rfl ?_
              refine ev_iload 0 dX10_readClaim_252 rfl ?_
              have hb254 := h.1
              replace h := h.2
              refine ev_iast lay_281 (Nat.le_of_ble_eq_true rfl) hb254 dX10_readClaim_254 ?_
              refine ev_iload_n 2 dX10_readClaim_255 rfl ?_
              refine ev_iconst 1 dX10_readClaim_256 (by decide) ?_
              refine ev_iadd dX10_readClaim_257 ?_
              exact ev_iret rfl dX10_readClaim_258 h
            · replace h := h.2 c9
              refine ev_iload_n 2 dX10_readClaim_213 rfl ?_
              exact ev_iret rfl dX10_readClaim_214 h
          · replace h := h.1 c9
            refine ev_aload_n 1 dX10_readClaim_184 rfl ?_
            refine ev_aload_n 1 dX10_readClaim_185 rfl ?_
            refine ev_get G10 lay_245 (k := 48) rfl (Nat.le_of_ble_eq_true rfl) dX10_readClaim_186 w_1274 ?_
            refine ev_iconst 3 dX10_readClaim_189 (by decide) ?_
            refine ev_icmp_ne 197 dX10_readClaim_190 (by decide) (fun c9 => ?_) (fun c9 => ?_)
            · replace h := h.2 c9
              refine ev_iconst 0 dX10_readClaim_197 (by decide) ?_
              refine ev_iconst 2 dX10_readClaim_198 (by decide) ?_
              refine ev_callV (M' := mX10_wants) [.int 0, .int 2] vX10_wants G10 lay_245 dX10_readClaim_199 w_1700 rfl rfl (Nat.le_of_ble_eq_true rfl) h ?_
              rintro r9 σ40 ⟨rfl, h⟩
              refine ev_aload_n 1 dX10_readClaim_202 rfl ?_
              refine ev_callV (M' := mX10_next) [] vX10_next G10 lay_245 dX10_readClaim_203 w_1682 rfl rfl (Nat.le_of_ble_eq_true rfl) h ?_
              rintro r9 σ41 ⟨rfl, h⟩
              refine ev_aload_n 1 dX10_readClaim_206 rfl ?_
              refine ev_get G10 lay_245 (k := 50) rfl (Nat.le_of_ble_eq_true rfl) dX10_readClaim_207 w_1276 ?_
              refine ev_if_le 215 dX10_readClaim_210 (by decide) (fun c9 => ?_) (fun c9 => ?_)
              · replace h := h.1 c9
                refine ev_aload_n 1 dX10_readClaim_215 rfl ?_
                refine ev_getR (r := 277) G10 lay_245 (k := 53) rfl (Nat.le_of_ble_eq_true rfl) dX10_readClaim_216 w_1279 ?_
                refine ev_iload_n 2 dX10_readClaim_219 rfl ?_
                refine ev_iload_n 3 dX10_readClaim_220 rfl ?_
                have hb221 := h.1
                replace h := h.2
                refine ev_iast lay_277 (Nat.le_of_ble_eq_true rfl) hb221 dX10_readClaim_221 ?_
                refine ev_aload_n 1 dX10_readClaim_222 rfl ?_
                refine ev_getR (r := 278) G10 lay_245 (k := 54) rfl (Nat.le_of_ble_eq_true rfl) dX10_readClaim_223 w_1280 ?_
                refine ev_iload_n 2 dX10_readClaim_226 rfl ?_
                refine ev_iload_n 4 dX10_readClaim_227 rfl ?_
                have hb228 := h.1
                replace h := h.2
                refine ev_iast lay_278 (Nat.le_of_ble_eq_true rfl) hb228 dX10_readClaim_228 ?_
                refine ev_aload_n 1 dX10_readClaim_229 rfl ?_
                refine ev_getR (r := 279) G10 lay_245 (k := 55) rfl (Nat.le_of_ble_eq_true rfl) dX10_readClaim_230 w_1281 ?_
                refine ev_iload_n 2 dX10_readClaim_233 rfl ?_
                refine ev_aload_n 1 dX10_readClaim_234 rfl ?_
                refine ev_get G10 lay_245 (k := 58) rfl (Nat.le_of_ble_eq_true rfl) dX10_readClaim_235 w_1284 ?_
                have hb238 := h.1
                replace h := h.2
                refine ev_iast lay_279 (Nat.le_of_ble_eq_true rfl) hb238 dX10_readClaim_238 ?_
                refine ev_aload_n 1 dX10_readClaim_239 rfl ?_
                refine ev_getR (r := 280) G10 lay_245 (k := 56) rfl (Nat.le_of_ble_eq_true rfl) dX10_readClaim_240 w_1282 ?_
                refine ev_iload_n 2 dX10_readClaim_243 rfl ?_
                refine ev_bipush (-4) dX10_readClaim_244 (by decide) ?_
                have hb246 := h.1
                replace h := h.2
                refine ev_iast lay_280 (Nat.le_of_ble_eq_true rfl) hb246 dX10_readClaim_246 ?_
                refine ev_aload_n 1 dX10_readClaim_247 rfl ?_
                refine ev_getR (r := 281) G10 lay_245 (k := 57) rfl (Nat.le_of_ble_eq_true rfl) dX10_readClaim_248 w_1283 ?_
                refine ev_iload_n 2 dX10_readClaim_251 rfl ?_
                refine ev_iload 0 dX10_readClaim_252 rfl ?_
                have hb254 := h.1
                replace h := h.2
                refine ev_iast lay_281 (Nat.le_of_ble_eq_true rfl) hb254 dX10_readClaim_254 ?_
                refine ev_iload_n 2 dX10_readClaim_255 rfl ?_
                refine ev_iconst 1 dX10_readClaim_256 (by decide) ?_
                refine ev_iadd dX10_readClaim_257 ?_
                exact ev_iret rfl dX10_readClaim_258 h
              · replace h := h.2 c9
                refine ev_iload_n 2 dX10_readClaim_213 rfl ?_
                exact ev_iret rfl dX10_readClaim_214 h
            · replace h := h.1 c9
              refine ev_iconst 1 dX10_readClaim_193 (by decide) ?_
              refine ev_goto 198 dX10_readClaim_194 (by decide) ?_
              refine ev_iconst 2 dX10_readClaim_198 (by decide) ?_
              refine ev_callV (M' := mX10_wants) [.int 1, .int 2] vX10_wants G10 lay_245 dX10_readClaim_199 w_1700 rfl rfl (Nat.le_of_ble_eq_true rfl) h ?_
              rintro r9 σ42 ⟨rfl, h⟩
              refine ev_aload_n 1 dX10_readClaim_202 rfl ?_
              refine ev_callV (M' := mX10_next) [] vX10_next G10 lay_245 dX10_readClaim_203 w_1682 rfl rfl (Nat.le_of_ble_eq_true rfl) h ?_
              rintro r9 σ43 ⟨rfl, h⟩
              refine ev_aload_n 1 dX10_readClaim_206 rfl ?_
              refine ev_get G10 lay_245 (k := 50) rfl (Nat.le_of_ble_eq_true rfl) dX10_readClaim_207 w_1276 ?_
              refine ev_if_le 215 dX10_readClaim_210 (by decide) (fun c9 => ?_) (fun c9 => ?_)
              · replace h := h.1 c9
                refine ev_aload_n 1 dX10_readClaim_215 rfl ?_
                refine ev_getR (r := 277) G10 lay_245 (k := 53) rfl (Nat.le_of_ble_eq_true rfl) dX10_readClaim_216 w_1279 ?_
                refine ev_iload_n 2 dX10_readClaim_219 rfl ?_
                refine ev_iload_n 3 dX10_readClaim_220 rfl ?_
                have hb221 := h.1
                replace h := h.2
                refine ev_iast lay_277 (Nat.le_of_ble_eq_true rfl) hb221 dX10_readClaim_221 ?_
                refine ev_aload_n 1 dX10_readClaim_222 rfl ?_
                refine ev_getR (r := 278) G10 lay_245 (k := 54) rfl (Nat.le_of_ble_eq_true rfl) dX10_readClaim_223 w_1280 ?_
                refine ev_iload_n 2 dX10_readClaim_226 rfl ?_
                refine ev_iload_n 4 dX10_readClaim_227 rfl ?_
                have hb228 := h.1
                replace h := h.2
                refine ev_iast lay_278 (Nat.le_of_ble_eq_true rfl) hb228 dX10_readClaim_228 ?_
                refine ev_aload_n 1 dX10_readClaim_229 rfl ?_
                refine ev_getR (r := 279) G10 lay_245 (k := 55) rfl (Nat.le_of_ble_eq_true rfl) dX10_readClaim_230 w_1281 ?_
                refine ev_iload_n 2 dX10_readClaim_233 rfl ?_
                refine ev_aload_n 1 dX10_readClaim_234 rfl ?_
                refine ev_get G10 lay_245 (k := 58) rfl (Nat.le_of_ble_eq_true rfl) dX10_readClaim_235 w_1284 ?_
                have hb238 := h.1
                replace h := h.2
                refine ev_iast lay_279 (Nat.le_of_ble_eq_true rfl) hb238 dX10_readClaim_238 ?_
                refine ev_aload_n 1 dX10_readClaim_239 rfl ?_
                refine ev_getR (r := 280) G10 lay_245 (k := 56) rfl (Nat.le_of_ble_eq_true rfl) dX10_readClaim_240 w_1282 ?_
                refine ev_iload_n 2 dX10_readClaim_243 rfl ?_
                refine ev_bipush (-4) dX10_readClaim_244 (by decide) ?_
                have hb246 := h.1
                replace h := h.2
                refine ev_iast lay_280 (Nat.le_of_ble_eq_true rfl) hb246 dX10_readClaim_246 ?_
                refine ev_aload_n 1 dX10_readClaim_247 rfl ?_
                refine ev_getR (r := 281) G10 lay_245 (k := 57) rfl (Nat.le_of_ble_eq_true rfl) dX10_readClaim_248 w_1283 ?_
                refine ev_iload_n 2 dX10_readClaim_251 rfl ?_
                refine ev_iload 0 dX10_readClaim_252 rfl ?_
                have hb254 := h.1
                replace h := h.2
                refine ev_iast lay_281 (Nat.le_of_ble_eq_true rfl) hb254 dX10_readClaim_254 ?_
                refine ev_iload_n 2 dX10_readClaim_255 rfl ?_
                refine ev_iconst 1 dX10_readClaim_256 (by decide) ?_
                refine ev_iadd dX10_readClaim_257 ?_
                exact ev_iret rfl dX10_readClaim_258 h
              · replace h := h.2 c9
                refine ev_iload_n 2 dX10_readClaim_213 rfl ?_
                exact ev_iret rfl dX10_readClaim_214 h
        · replace h := h.1 c9
          refine ev_aload_n 1 dX10_readClaim_170 rfl ?_
          refine ev_iload_n 2 dX10_readClaim_171 rfl ?_
          refine ev_callV (M' := mX10_readOn) [.int x1] vX10_readOn G10 lay_245 dX10_readClaim_172 w_1710 rfl rfl (Nat.le_of_ble_eq_true rfl) h ?_
          rintro r9 σ44 ⟨v44, rfl, h⟩
          refine ev_istore (lv' := [(4, .int v44), (0, .ref 245), (1, .int x1), (2, .int x2), (3, .int x3)]) dX10_readClaim_175 (Nat.le_of_ble_eq_true rfl) rfl ?_
          refine ev_aload_n 1 dX10_readClaim_177 rfl ?_
          refine ev_get G10 lay_245 (k := 50) rfl (Nat.le_of_ble_eq_true rfl) dX10_readClaim_178 w_1276 ?_
          refine ev_if_ne 202 dX10_readClaim_181 (by decide) (fun c9 => ?_) (fun c9 => ?_)
          · replace h := h.2 c9
            refine ev_aload_n 1 dX10_readClaim_202 rfl ?_
            refine ev_callV (M' := mX10_next) [] vX10_next G10 lay_245 dX10_readClaim_203 w_1682 rfl rfl (Nat.le_of_ble_eq_true rfl) h ?_
            rintro r9 σ45 ⟨rfl, h⟩
            refine ev_aload_n 1 dX10_readClaim_206 rfl ?_
            refine ev_get G10 lay_245 (k := 50) rfl (Nat.le_of_ble_eq_true rfl) dX10_readClaim_207 w_1276 ?_
            refine ev_if_le 215 dX10_readClaim_210 (by decide) (fun c9 => ?_) (fun c9 => ?_)
            · replace h := h.1 c9
              refine ev_aload_n 1 dX10_readClaim_215 rfl ?_
              refine ev_getR (r := 277) G10 lay_245 (k := 53) rfl (Nat.le_of_ble_eq_true rfl) dX10_readClaim_216 w_1279 ?_
              refine ev_iload_n 2 dX10_readClaim_219 rfl ?_
              refine ev_iload_n 3 dX10_readClaim_220 rfl ?_
              have hb221 := h.1
              replace h := h.2
              refine ev_iast lay_277 (Nat.le_of_ble_eq_true rfl) hb221 dX10_readClaim_221 ?_
              refine ev_aload_n 1 dX10_readClaim_222 rfl ?_
              refine ev_getR (r := 278) G10 lay_245 (k := 54) rfl (Nat.le_of_ble_eq_true rfl) dX10_readClaim_223 w_1280 ?_
              refine ev_iload_n 2 dX10_readClaim_226 rfl ?_
              refine ev_iload_n 4 dX10_readClaim_227 rfl ?_
              have hb228 := h.1
              replace h := h.2
              refine ev_iast lay_278 (Nat.le_of_ble_eq_true rfl) hb228 dX10_readClaim_228 ?_
              refine ev_aload_n 1 dX10_readClaim_229 rfl ?_
              refine ev_getR (r := 279) G10 lay_245 (k := 55) rfl (Nat.le_of_ble_eq_true rfl) dX10_readClaim_230 w_1281 ?_
              refine ev_iload_n 2 dX10_readClaim_233 rfl ?_
              refine ev_aload_n 1 dX10_readClaim_234 rfl ?_
              refine ev_get G10 lay_245 (k := 58) rfl (Nat.le_of_ble_eq_true rfl) dX10_readClaim_235 w_1284 ?_
              have hb238 := h.1
              replace h := h.2
              refine ev_iast lay_279 (Nat.le_of_ble_eq_true rfl) hb238 dX10_readClaim_238 ?_
              refine ev_aload_n 1 dX10_readClaim_239 rfl ?_
              refine ev_getR (r := 280) G10 lay_245 (k := 56) rfl (Nat.le_of_ble_eq_true rfl) dX10_readClaim_240 w_1282 ?_
              refine ev_iload_n 2 dX10_readClaim_243 rfl ?_
              refine ev_bipush (-4) dX10_readClaim_244 (by decide) ?_
              have hb246 := h.1
              replace h := h.2
              refine ev_iast lay_280 (Nat.le_of_ble_eq_true rfl) hb246 dX10_readClaim_246 ?_
              refine ev_aload_n 1 dX10_readClaim_247 rfl ?_
              refine ev_getR (r := 281) G10 lay_245 (k := 57) rfl (Nat.le_of_ble_eq_true rfl) dX10_readClaim_248 w_1283 ?_
              refine ev_iload_n 2 dX10_readClaim_251 rfl ?_
              refine ev_iload 0 dX10_readClaim_252 rfl ?_
              have hb254 := h.1
              replace h := h.2
              refine ev_iast lay_281 (Nat.le_of_ble_eq_true rfl) hb254 dX10_readClaim_254 ?_
              refine ev_iload_n 2 dX10_readClaim_255 rfl ?_
              refine ev_iconst 1 dX10_readClaim_256 (by decide) ?_
              refine ev_iadd dX10_readClaim_257 ?_
              exact ev_iret rfl dX10_readClaim_258 h
            · replace h := h.2 c9
              refine ev_iload_n 2 dX10_readClaim_213 rfl ?_
              exact ev_iret rfl dX10_readClaim_214 h
          · replace h := h.1 c9
            refine ev_aload_n 1 dX10_readClaim_184 rfl ?_
            refine ev_aload_n 1 dX10_readClaim_185 rfl ?_
            refine ev_get G10 lay_245 (k := 48) rfl (Nat.le_of_ble_eq_true rfl) dX10_readClaim_186 w_1274 ?_
            refine ev_iconst 3 dX10_readClaim_189 (by decide) ?_
            refine ev_icmp_ne 197 dX10_readClaim_190 (by decide) (fun c9 => ?_) (fun c9 => ?_)
            · replace h := h.2 c9
              refine ev_iconst 0 dX10_readClaim_197 (by decide) ?_
              refine ev_iconst 2 dX10_readClaim_198 (by decide) ?_
              refine ev_callV (M' := mX10_wants) [.int 0, .int 2] vX10_wants G10 lay_245 dX10_readClaim_199 w_1700 rfl rfl (Nat.le_of_ble_eq_true rfl) h ?_
              rintro r9 σ46 ⟨rfl, h⟩
              refine ev_aload_n 1 dX10_readClaim_202 rfl ?_
              refine ev_callV (M' := mX10_next) [] vX10_next G10 lay_245 dX10_readClaim_203 w_1682 rfl rfl (Nat.le_of_ble_eq_true rfl) h ?_
              rintro r9 σ47 ⟨rfl, h⟩
              refine ev_aload_n 1 dX10_readClaim_206 rfl ?_
              refine ev_get G10 lay_245 (k := 50) rfl (Nat.le_of_ble_eq_true rfl) dX10_readClaim_207 w_1276 ?_
              refine ev_if_le 215 dX10_readClaim_210 (by decide) (fun c9 => ?_) (fun c9 => ?_)
              · replace h := h.1 c9
                refine ev_aload_n 1 dX10_readClaim_215 rfl ?_
                refine ev_getR (r := 277) G10 lay_245 (k := 53) rfl (Nat.le_of_ble_eq_true rfl) dX10_readClaim_216 w_1279 ?_
                refine ev_iload_n 2 dX10_readClaim_219 rfl ?_
                refine ev_iload_n 3 dX10_readClaim_220 rfl ?_
                have hb221 := h.1
                replace h := h.2
                refine ev_iast lay_277 (Nat.le_of_ble_eq_true rfl) hb221 dX10_readClaim_221 ?_
                refine ev_aload_n 1 dX10_readClaim_222 rfl ?_
                refine ev_getR (r := 278) G10 lay_245 (k := 54) rfl (Nat.le_of_ble_eq_true rfl) dX10_readClaim_223 w_1280 ?_
                refine ev_iload_n 2 dX10_readClaim_226 rfl ?_
                refine ev_iload_n 4 dX10_readClaim_227 rfl ?_
                have hb228 := h.1
                replace h := h.2
                refine ev_iast lay_278 (Nat.le_of_ble_eq_true rfl) hb228 dX10_readClaim_228 ?_
                refine ev_aload_n 1 dX10_readClaim_229 rfl ?_
                refine ev_getR (r := 279) G10 lay_245 (k := 55) rfl (Nat.le_of_ble_eq_true rfl) dX10_readClaim_230 w_1281 ?_
                refine ev_iload_n 2 dX10_readClaim_233 rfl ?_
                refine ev_aload_n 1 dX10_readClaim_234 rfl ?_
                refine ev_get G10 lay_245 (k := 58) rfl (Nat.le_of_ble_eq_true rfl) dX10_readClaim_235 w_1284 ?_
                have hb238 := h.1
                replace h := h.2
                refine ev_iast lay_279 (Nat.le_of_ble_eq_true rfl) hb238 dX10_readClaim_238 ?_
                refine ev_aload_n 1 dX10_readClaim_239 rfl ?_
                refine ev_getR (r := 280) G10 lay_245 (k := 56) rfl (Nat.le_of_ble_eq_true rfl) dX10_readClaim_240 w_1282 ?_
                refine ev_iload_n 2 dX10_readClaim_243 rfl ?_
                refine ev_bipush (-4) dX10_readClaim_244 (by decide) ?_
                have hb246 := h.1
                replace h := h.2
                refine ev_iast lay_280 (Nat.le_of_ble_eq_true rfl) hb246 dX10_readClaim_246 ?_
                refine ev_aload_n 1 dX10_readClaim_247 rfl ?_
                refine ev_getR (r := 281) G10 lay_245 (k := 57) rfl (Nat.le_of_ble_eq_true rfl) dX10_readClaim_248 w_1283 ?_
                refine ev_iload_n 2 dX10_readClaim_251 rfl ?_
                refine ev_iload 0 dX10_readClaim_252 rfl ?_
                have hb254 := h.1
                replace h := h.2
                refine ev_iast lay_281 (Nat.le_of_ble_eq_true rfl) hb254 dX10_readClaim_254 ?_
                refine ev_iload_n 2 dX10_readClaim_255 rfl ?_
                refine ev_iconst 1 dX10_readClaim_256 (by decide) ?_
                refine ev_iadd dX10_readClaim_257 ?_
                exact ev_iret rfl dX10_readClaim_258 h
              · replace h := h.2 c9
                refine ev_iload_n 2 dX10_readClaim_213 rfl ?_
                exact ev_iret rfl dX10_readClaim_214 h
            · replace h := h.1 c9
              refine ev_iconst 1 dX10_readClaim_193 (by decide) ?_
              refine ev_goto 198 dX10_readClaim_194 (by decide) ?_
              refine ev_iconst 2 dX10_readClaim_198 (by decide) ?_
              refine ev_callV (M' := mX10_wants) [.int 1, .int 2] vX10_wants G10 lay_245 dX10_readClaim_199 w_1700 rfl rfl (Nat.le_of_ble_eq_true rfl) h ?_
              rintro r9 σ48 ⟨rfl, h⟩
              refine ev_aload_n 1 dX10_readClaim_202 rfl ?_
              refine ev_callV (M' := mX10_next) [] vX10_next G10 lay_245 dX10_readClaim_203 w_1682 rfl rfl (Nat.le_of_ble_eq_true rfl) h ?_
              rintro r9 σ49 ⟨rfl, h⟩
              refine ev_aload_n 1 dX10_readClaim_206 rfl ?_
              refine ev_get G10 lay_245 (k := 50) rfl (Nat.le_of_ble_eq_true rfl) dX10_readClaim_207 w_1276 ?_
              refine ev_if_le 215 dX10_readClaim_210 (by decide) (fun c9 => ?_) (fun c9 => ?_)
              · replace h := h.1 c9
                refine ev_aload_n 1 dX10_readClaim_215 rfl ?_
                refine ev_getR (r := 277) G10 lay_245 (k := 53) rfl (Nat.le_of_ble_eq_true rfl) dX10_readClaim_216 w_1279 ?_
                refine ev_iload_n 2 dX10_readClaim_219 rfl ?_
                refine ev_iload_n 3 dX10_readClaim_220 rfl ?_
                have hb221 := h.1
                replace h := h.2
                refine ev_iast lay_277 (Nat.le_of_ble_eq_true rfl) hb221 dX10_readClaim_221 ?_
                refine ev_aload_n 1 dX10_readClaim_222 rfl ?_
                refine ev_getR (r := 278) G10 lay_245 (k := 54) rfl (Nat.le_of_ble_eq_true rfl) dX10_readClaim_223 w_1280 ?_
                refine ev_iload_n 2 dX10_readClaim_226 rfl ?_
                refine ev_iload_n 4 dX10_readClaim_227 rfl ?_
                have hb228 := h.1
                replace h := h.2
                refine ev_iast lay_278 (Nat.le_of_ble_eq_true rfl) hb228 dX10_readClaim_228 ?_
                refine ev_aload_n 1 dX10_readClaim_229 rfl ?_
                refine ev_getR (r := 279) G10 lay_245 (k := 55) rfl (Nat.le_of_ble_eq_true rfl) dX10_readClaim_230 w_1281 ?_
                refine ev_iload_n 2 dX10_readClaim_233 rfl ?_
                refine ev_aload_n 1 dX10_readClaim_234 rfl ?_
                refine ev_get G10 lay_245 (k := 58) rfl (Nat.le_of_ble_eq_true rfl) dX10_readClaim_235 w_1284 ?_
                have hb238 := h.1
                replace h := h.2
                refine ev_iast lay_279 (Nat.le_of_ble_eq_true rfl) hb238 dX10_readClaim_238 ?_
                refine ev_aload_n 1 dX10_readClaim_239 rfl ?_
                refine ev_getR (r := 280) G10 lay_245 (k := 56) rfl (Nat.le_of_ble_eq_true rfl) dX10_readClaim_240 w_1282 ?_
                refine ev_iload_n 2 dX10_readClaim_243 rfl ?_
                refine ev_bipush (-4) dX10_readClaim_244 (by decide) ?_
                have hb246 := h.1
                replace h := h.2
                refine ev_iast lay_280 (Nat.le_of_ble_eq_true rfl) hb246 dX10_readClaim_246 ?_
                refine ev_aload_n 1 dX10_readClaim_247 rfl ?_
                refine ev_getR (r := 281) G10 lay_245 (k := 57) rfl (Nat.le_of_ble_eq_true rfl) dX10_readClaim_248 w_1283 ?_
                refine ev_iload_n 2 dX10_readClaim_251 rfl ?_
                refine ev_iload 0 dX10_readClaim_252 rfl ?_
                have hb254 := h.1
                replace h := h.2
                refine ev_iast lay_281 (Nat.le_of_ble_eq_true rfl) hb254 dX10_readClaim_254 ?_
                refine ev_iload_n 2 dX10_readClaim_255 rfl ?_
                refine ev_iconst 1 dX10_readClaim_256 (by decide) ?_
                refine ev_iadd dX10_readClaim_257 ?_
                exact ev_iret rfl dX10_readClaim_258 h
              · replace h := h.2 c9
                refine ev_iload_n 2 dX10_readClaim_213 rfl ?_
                exact ev_iret rfl dX10_readClaim_214 h
  · replace h := h.2 c9
    refine ev_aload_n 0 dX10_readClaim_83 rfl ?_
    refine ev_get G10 lay_245 (k := 50) rfl (Nat.le_of_ble_eq_true rfl) dX10_readClaim_84 w_1276 ?_
    refine ev_if_ne 140 dX10_readClaim_87 (by decide) (fun c9 => ?_) (fun c9 => ?_)
    · replace h := h.2 c9
      refine ev_aload_n 0 dX10_readClaim_140 rfl ?_
      refine ev_callV (M' := mX10_next) [] vX10_next G10 lay_245 dX10_readClaim_141 w_1682 rfl rfl (Nat.le_of_ble_eq_true rfl) h ?_
      rintro r9 σ50 ⟨rfl, h⟩
      refine ev_iconst 0 dX10_readClaim_144 (by decide) ?_
      refine ev_istore (lv' := [(4, .int 0), (0, .ref 245), (1, .int x1), (2, .int x2), (3, .int x3)]) dX10_readClaim_145 (Nat.le_of_ble_eq_true rfl) rfl ?_
      refine ev_aload_n 1 dX10_readClaim_147 rfl ?_
      refine ev_get G10 lay_245 (k := 50) rfl (Nat.le_of_ble_eq_true rfl) dX10_readClaim_148 w_1276 ?_
      refine ev_if_ne 177 dX10_readClaim_151 (by decide) (fun c9 => ?_) (fun c9 => ?_)
      · replace h := h.2 c9
        refine ev_aload_n 1 dX10_readClaim_177 rfl ?_
        refine ev_get G10 lay_245 (k := 50) rfl (Nat.le_of_ble_eq_true rfl) dX10_readClaim_178 w_1276 ?_
        refine ev_if_ne 202 dX10_readClaim_181 (by decide) (fun c9 => ?_) (fun c9 => ?_)
        · replace h := h.2 c9
          refine ev_aload_n 1 dX10_readClaim_202 rfl ?_
          refine ev_callV (M' := mX10_next) [] vX10_next G10 lay_245 dX10_readClaim_203 w_1682 rfl rfl (Nat.le_of_ble_eq_true rfl) h ?_
          rintro r9 σ51 ⟨rfl, h⟩
          refine ev_aload_n 1 dX10_readClaim_206 rfl ?_
          refine ev_get G10 lay_245 (k := 50) rfl (Nat.le_of_ble_eq_true rfl) dX10_readClaim_207 w_1276 ?_
          refine ev_if_le 215 dX10_readClaim_210 (by decide) (fun c9 => ?_) (fun c9 => ?_)
          · replace h := h.1 c9
            refine ev_aload_n 1 dX10_readClaim_215 rfl ?_
            refine ev_getR (r := 277) G10 lay_245 (k := 53) rfl (Nat.le_of_ble_eq_true rfl) dX10_readClaim_216 w_1279 ?_
            refine ev_iload_n 2 dX10_readClaim_219 rfl ?_
            refine ev_iload_n 3 dX10_readClaim_220 rfl ?_
            have hb221 := h.1
            replace h := h.2
            refine ev_iast lay_277 (Nat.le_of_ble_eq_true rfl) hb221 dX10_readClaim_221 ?_
            refine ev_aload_n 1 dX10_readClaim_222 rfl ?_
            refine ev_getR (r := 278) G10 lay_245 (k := 54) rfl (Nat.le_of_ble_eq_true rfl) dX10_readClaim_223 w_1280 ?_
            refine ev_iload_n 2 dX10_readClaim_226 rfl ?_
            refine ev_iload_n 4 dX10_readClaim_227 rfl ?_
            have hb228 := h.1
            replace h := h.2
            refine ev_iast lay_278 (Nat.le_of_ble_eq_true rfl) hb228 dX10_readClaim_228 ?_
            refine ev_aload_n 1 dX10_readClaim_229 rfl ?_
            refine ev_getR (r := 279) G10 lay_245 (k := 55) rfl (Nat.le_of_ble_eq_true rfl) dX10_readClaim_230 w_1281 ?_
            refine ev_iload_n 2 dX10_readClaim_233 rfl ?_
            refine ev_aload_n 1 dX10_readClaim_234 rfl ?_
            refine ev_get G10 lay_245 (k := 58) rfl (Nat.le_of_ble_eq_true rfl) dX10_readClaim_235 w_1284 ?_
            have hb238 := h.1
            replace h := h.2
            refine ev_iast lay_279 (Nat.le_of_ble_eq_true rfl) hb238 dX10_readClaim_238 ?_
            refine ev_aload_n 1 dX10_readClaim_239 rfl ?_
            refine ev_getR (r := 280) G10 lay_245 (k := 56) rfl (Nat.le_of_ble_eq_true rfl) dX10_readClaim_240 w_1282 ?_
            refine ev_iload_n 2 dX10_readClaim_243 rfl ?_
            refine ev_bipush (-4) dX10_readClaim_244 (by decide) ?_
            have hb246 := h.1
            replace h := h.2
            refine ev_iast lay_280 (Nat.le_of_ble_eq_true rfl) hb246 dX10_readClaim_246 ?_
            refine ev_aload_n 1 dX10_readClaim_247 rfl ?_
            refine ev_getR (r := 281) G10 lay_245 (k := 57) rfl (Nat.le_of_ble_eq_true rfl) dX10_readClaim_248 w_1283 ?_
            refine ev_iload_n 2 dX10_readClaim_251 rfl ?_
            refine ev_iload 0 dX10_readClaim_252 rfl ?_
            have hb254 := h.1
            replace h := h.2
            refine ev_iast lay_281 (Nat.le_of_ble_eq_true rfl) hb254 dX10_readClaim_254 ?_
            refine ev_iload_n 2 dX10_readClaim_255 rfl ?_
            refine ev_iconst 1 dX10_readClaim_256 (by decide) ?_
            refine ev_iadd dX10_readClaim_257 ?_
            exact ev_iret rfl dX10_readClaim_258 h
          · replace h := h.2 c9
            refine ev_iload_n 2 dX10_readClaim_213 rfl ?_
            exact ev_iret rfl dX10_readClaim_214 h
        · replace h := h.1 c9
          refine ev_aload_n 1 dX10_readClaim_184 rfl ?_
          refine ev_aload_n 1 dX10_readClaim_185 rfl ?_
          refine ev_get G10 lay_245 (k := 48) rfl (Nat.le_of_ble_eq_true rfl) dX10_readClaim_186 w_1274 ?_
          refine ev_iconst 3 dX10_readClaim_189 (by decide) ?_
          refine ev_icmp_ne 197 dX10_readClaim_190 (by decide) (fun c9 => ?_) (fun c9 => ?_)
          · replace h := h.2 c9
            refine ev_iconst 0 dX10_readClaim_197 (by decide) ?_
            refine ev_iconst 2 dX10_readClaim_198 (by decide) ?_
            refine ev_callV (M' := mX10_wants) [.int 0, .int 2] vX10_wants G10 lay_245 dX10_readClaim_199 w_1700 rfl rfl (Nat.le_of_ble_eq_true rfl) h ?_
            rintro r9 σ52 ⟨rfl, h⟩
            refine ev_aload_n 1 dX10_readClaim_202 rfl ?_
            refine ev_callV (M' := mX10_next) [] vX10_next G10 lay_245 dX10_readClaim_203 w_1682 rfl rfl (Nat.le_of_ble_eq_true rfl) h ?_
            rintro r9 σ53 ⟨rfl, h⟩
            refine ev_aload_n 1 dX10_readClaim_206 rfl ?_
            refine ev_get G10 lay_245 (k := 50) rfl (Nat.le_of_ble_eq_true rfl) dX10_readClaim_207 w_1276 ?_
            refine ev_if_le 215 dX10_readClaim_210 (by decide) (fun c9 => ?_) (fun c9 => ?_)
            · replace h := h.1 c9
              refine ev_aload_n 1 dX10_readClaim_215 rfl ?_
              refine ev_getR (r := 277) G10 lay_245 (k := 53) rfl (Nat.le_of_ble_eq_true rfl) dX10_readClaim_216 w_1279 ?_
              refine ev_iload_n 2 dX10_readClaim_219 rfl ?_
              refine ev_iload_n 3 dX10_readClaim_220 rfl ?_
              have hb221 := h.1
              replace h := h.2
              refine ev_iast lay_277 (Nat.le_of_ble_eq_true rfl) hb221 dX10_readClaim_221 ?_
              refine ev_aload_n 1 dX10_readClaim_222 rfl ?_
              refine ev_getR (r := 278) G10 lay_245 (k := 54) rfl (Nat.le_of_ble_eq_true rfl) dX10_readClaim_223 w_1280 ?_
              refine ev_iload_n 2 dX10_readClaim_226 rfl ?_
              refine ev_iload_n 4 dX10_readClaim_227 rfl ?_
              have hb228 := h.1
              replace h := h.2
              refine ev_iast lay_278 (Nat.le_of_ble_eq_true rfl) hb228 dX10_readClaim_228 ?_
              refine ev_aload_n 1 dX10_readClaim_229 rfl ?_
              refine ev_getR (r := 279) G10 lay_245 (k := 55) rfl (Nat.le_of_ble_eq_true rfl) dX10_readClaim_230 w_1281 ?_
              refine ev_iload_n 2 dX10_readClaim_233 rfl ?_
              refine ev_aload_n 1 dX10_readClaim_234 rfl ?_
              refine ev_get G10 lay_245 (k := 58) rfl (Nat.le_of_ble_eq_true rfl) dX10_readClaim_235 w_1284 ?_
              have hb238 := h.1
              replace h := h.2
              refine ev_iast lay_279 (Nat.le_of_ble_eq_true rfl) hb238 dX10_readClaim_238 ?_
              refine ev_aload_n 1 dX10_readClaim_239 rfl ?_
              refine ev_getR (r := 280) G10 lay_245 (k := 56) rfl (Nat.le_of_ble_eq_true rfl) dX10_readClaim_240 w_1282 ?_
              refine ev_iload_n 2 dX10_readClaim_243 rfl ?_
              refine ev_bipush (-4) dX10_readClaim_244 (by decide) ?_
              have hb246 := h.1
              replace h := h.2
              refine ev_iast lay_280 (Nat.le_of_ble_eq_true rfl) hb246 dX10_readClaim_246 ?_
              refine ev_aload_n 1 dX10_readClaim_247 rfl ?_
              refine ev_getR (r := 281) G10 lay_245 (k := 57) rfl (Nat.le_of_ble_eq_true rfl) dX10_readClaim_248 w_1283 ?_
              refine ev_iload_n 2 dX10_readClaim_251 rfl ?_
              refine ev_iload 0 dX10_readClaim_252 rfl ?_
              have hb254 := h.1
              replace h := h.2
              refine ev_iast lay_281 (Nat.le_of_ble_eq_true rfl) hb254 dX10_readClaim_254 ?_
              refine ev_iload_n 2 dX10_readClaim_255 rfl ?_
              refine ev_iconst 1 dX10_readClaim_256 (by decide) ?_
              refine ev_iadd dX10_readClaim_257 ?_
              exact ev_iret rfl dX10_readClaim_258 h
            · replace h := h.2 c9
              refine ev_iload_n 2 dX10_readClaim_213 rfl ?_
              exact ev_iret rfl dX10_readClaim_214 h
          · replace h := h.1 c9
            refine ev_iconst 1 dX10_readClaim_193 (by decide) ?_
            refine ev_goto 198 dX10_readClaim_194 (by decide) ?_
            refine ev_iconst 2 dX10_readClaim_198 (by decide) ?_
            refine ev_callV (M' := mX10_wants) [.int 1, .int 2] vX10_wants G10 lay_245 dX10_readClaim_199 w_1700 rfl rfl (Nat.le_of_ble_eq_true rfl) h ?_
            rintro r9 σ54 ⟨rfl, h⟩
            refine ev_aload_n 1 dX10_readClaim_202 rfl ?_
            refine ev_callV (M' := mX10_next) [] vX10_next G10 lay_245 dX10_readClaim_203 w_1682 rfl rfl (Nat.le_of_ble_eq_true rfl) h ?_
            rintro r9 σ55 ⟨rfl, h⟩
            refine ev_aload_n 1 dX10_readClaim_206 rfl ?_
            refine ev_get G10 lay_245 (k := 50) rfl (Nat.le_of_ble_eq_true rfl) dX10_readClaim_207 w_1276 ?_
            refine ev_if_le 215 dX10_readClaim_210 (by decide) (fun c9 => ?_) (fun c9 => ?_)
            · replace h := h.1 c9
              refine ev_aload_n 1 dX10_readClaim_215 rfl ?_
              refine ev_getR (r := 277) G10 lay_245 (k := 53) rfl (Nat.le_of_ble_eq_true rfl) dX10_readClaim_216 w_1279 ?_
              refine ev_iload_n 2 dX10_readClaim_219 rfl ?_
              refine ev_iload_n 3 dX10_readClaim_220 rfl ?_
              have hb221 := h.1
              replace h := h.2
              refine ev_iast lay_277 (Nat.le_of_ble_eq_true rfl) hb221 dX10_readClaim_221 ?_
              refine ev_aload_n 1 dX10_readClaim_222 rfl ?_
              refine ev_getR (r := 278) G10 lay_245 (k := 54) rfl (Nat.le_of_ble_eq_true rfl) dX10_readClaim_223 w_1280 ?_
              refine ev_iload_n 2 dX10_readClaim_226 rfl ?_
              refine ev_iload_n 4 dX10_readClaim_227 rfl ?_
              have hb228 := h.1
              replace h := h.2
              refine ev_iast lay_278 (Nat.le_of_ble_eq_true rfl) hb228 dX10_readClaim_228 ?_
              refine ev_aload_n 1 dX10_readClaim_229 rfl ?_
              refine ev_getR (r := 279) G10 lay_245 (k := 55) rfl (Nat.le_of_ble_eq_true rfl) dX10_readClaim_230 w_1281 ?_
              refine ev_iload_n 2 dX10_readClaim_233 rfl ?_
              refine ev_aload_n 1 dX10_readClaim_234 rfl ?_
              refine ev_get G10 lay_245 (k := 58) rfl (Nat.le_of_ble_eq_true rfl) dX10_readClaim_235 w_1284 ?_
              have hb238 := h.1
              replace h := h.2
              refine ev_iast lay_279 (Nat.le_of_ble_eq_true rfl) hb238 dX10_readClaim_238 ?_
              refine ev_aload_n 1 dX10_readClaim_239 rfl ?_
              refine ev_getR (r := 280) G10 lay_245 (k := 56) rfl (Nat.le_of_ble_eq_true rfl) dX10_readClaim_240 w_1282 ?_
              refine ev_iload_n 2 dX10_readClaim_243 rfl ?_
              refine ev_bipush (-4) dX10_readClaim_244 (by decide) ?_
              have hb246 := h.1
              replace h := h.2
              refine ev_iast lay_280 (Nat.le_of_ble_eq_true rfl) hb246 dX10_readClaim_246 ?_
              refine ev_aload_n 1 dX10_readClaim_247 rfl ?_
              refine ev_getR (r := 281) G10 lay_245 (k := 57) rfl (Nat.le_of_ble_eq_true rfl) dX10_readClaim_248 w_1283 ?_
              refine ev_iload_n 2 dX10_readClaim_251 rfl ?_
              refine ev_iload 0 dX10_readClaim_252 rfl ?_
              have hb254 := h.1
              replace h := h.2
              refine ev_iast lay_281 (Nat.le_of_ble_eq_true rfl) hb254 dX10_readClaim_254 ?_
              refine ev_iload_n 2 dX10_readClaim_255 rfl ?_
              refine ev_iconst 1 dX10_readClaim_256 (by decide) ?_
              refine ev_iadd dX10_readClaim_257 ?_
              exact ev_iret rfl dX10_readClaim_258 h
            · replace h := h.2 c9
              refine ev_iload_n 2 dX10_readClaim_213 rfl ?_
              exact ev_iret rfl dX10_readClaim_214 h
      · replace h := h.1 c9
        refine ev_aload_n 1 dX10_readClaim_154 rfl ?_
        refine ev_get G10 lay_245 (k := 48) rfl (Nat.le_of_ble_eq_true rfl) dX10_readClaim_155 w_1274 ?_
        refine ev_iconst 1 dX10_readClaim_158 (by decide) ?_
        refine ev_icmp_ne 177 dX10_readClaim_159 (by decide) (fun c9 => ?_) (fun c9 => ?_)
        · replace h := h.2 c9
          refine ev_aload_n 1 dX10_readClaim_177 rfl ?_
          refine ev_get G10 lay_245 (k := 50) rfl (Nat.le_of_ble_eq_true rfl) dX10_readClaim_178 w_1276 ?_
          refine ev_if_ne 202 dX10_readClaim_181 (by decide) (fun c9 => ?_) (fun c9 => ?_)
          · replace h := h.2 c9
            refine ev_aload_n 1 dX10_readClaim_202 rfl ?_
            refine ev_callV (M' := mX10_next) [] vX10_next G10 lay_245 dX10_readClaim_203 w_1682 rfl rfl (Nat.le_of_ble_eq_true rfl) h ?_
            rintro r9 σ56 ⟨rfl, h⟩
            refine ev_aload_n 1 dX10_readClaim_206 rfl ?_
            refine ev_get G10 lay_245 (k := 50) rfl (Nat.le_of_ble_eq_true rfl) dX10_readClaim_207 w_1276 ?_
            refine ev_if_le 215 dX10_readClaim_210 (by decide) (fun c9 => ?_) (fun c9 => ?_)
            · replace h := h.1 c9
              refine ev_aload_n 1 dX10_readClaim_215 rfl ?_
              refine ev_getR (r := 277) G10 lay_245 (k := 53) rfl (Nat.le_of_ble_eq_true rfl) dX10_readClaim_216 w_1279 ?_
              refine ev_iload_n 2 dX10_readClaim_219 rfl ?_
              refine ev_iload_n 3 dX10_readClaim_220 rfl ?_
              have hb221 := h.1
              replace h := h.2
              refine ev_iast lay_277 (Nat.le_of_ble_eq_true rfl) hb221 dX10_readClaim_221 ?_
              refine ev_aload_n 1 dX10_readClaim_222 rfl ?_
              refine ev_getR (r := 278) G10 lay_245 (k := 54) rfl (Nat.le_of_ble_eq_true rfl) dX10_readClaim_223 w_1280 ?_
              refine ev_iload_n 2 dX10_readClaim_226 rfl ?_
              refine ev_iload_n 4 dX10_readClaim_227 rfl ?_
              have hb228 := h.1
              replace h := h.2
              refine ev_iast lay_278 (Nat.le_of_ble_eq_true rfl) hb228 dX10_readClaim_228 ?_
              refine ev_aload_n 1 dX10_readClaim_229 rfl ?_
              refine ev_getR (r := 279) G10 lay_245 (k := 55) rfl (Nat.le_of_ble_eq_true rfl) dX10_readClaim_230 w_1281 ?_
              refine ev_iload_n 2 dX10_readClaim_233 rfl ?_
              refine ev_aload_n 1 dX10_readClaim_234 rfl ?_
              refine ev_get G10 lay_245 (k := 58) rfl (Nat.le_of_ble_eq_true rfl) dX10_readClaim_235 w_1284 ?_
              have hb238 := h.1
              replace h := h.2
              refine ev_iast lay_279 (Nat.le_of_ble_eq_true rfl) hb238 dX10_readClaim_238 ?_
              refine ev_aload_n 1 dX10_readClaim_239 rfl ?_
              refine ev_getR (r := 280) G10 lay_245 (k := 56) rfl (Nat.le_of_ble_eq_true rfl) dX10_readClaim_240 w_1282 ?_
              refine ev_iload_n 2 dX10_readClaim_243 rfl ?_
              refine ev_bipush (-4) dX10_readClaim_244 (by decide) ?_
              have hb246 := h.1
              replace h := h.2
              refine ev_iast lay_280 (Nat.le_of_ble_eq_true rfl) hb246 dX10_readClaim_246 ?_
              refine ev_aload_n 1 dX10_readClaim_247 rfl ?_
              refine ev_getR (r := 281) G10 lay_245 (k := 57) rfl (Nat.le_of_ble_eq_true rfl) dX10_readClaim_248 w_1283 ?_
              refine ev_iload_n 2 dX10_readClaim_251 rfl ?_
              refine ev_iload 0 dX10_readClaim_252 rfl ?_
              have hb254 := h.1
              replace h := h.2
              refine ev_iast lay_281 (Nat.le_of_ble_eq_true rfl) hb254 dX10_readClaim_254 ?_
              refine ev_iload_n 2 dX10_readClaim_255 rfl ?_
              refine ev_iconst 1 dX10_readClaim_256 (by decide) ?_
              refine ev_iadd dX10_readClaim_257 ?_
              exact ev_iret rfl dX10_readClaim_258 h
            · replace h := h.2 c9
              refine ev_iload_n 2 dX10_readClaim_213 rfl ?_
              exact ev_iret rfl dX10_readClaim_214 h
          · replace h := h.1 c9
            refine ev_aload_n 1 dX10_readClaim_184 rfl ?_
            refine ev_aload_n 1 dX10_readClaim_185 rfl ?_
            refine ev_get G10 lay_245 (k := 48) rfl (Nat.le_of_ble_eq_true rfl) dX10_readClaim_186 w_1274 ?_
            refine ev_iconst 3 dX10_readClaim_189 (by decide) ?_
            refine ev_icmp_ne 197 dX10_readClaim_190 (by decide) (fun c9 => ?_) (fun c9 => ?_)
            · replace h := h.2 c9
              refine ev_iconst 0 dX10_readClaim_197 (by decide) ?_
              refine ev_iconst 2 dX10_readClaim_198 (by decide) ?_
              refine ev_callV (M' := mX10_wants) [.int 0, .int 2] vX10_wants G10 lay_245 dX10_readClaim_199 w_1700 rfl rfl (Nat.le_of_ble_eq_true rfl) h ?_
              rintro r9 σ57 ⟨rfl, h⟩
              refine ev_aload_n 1 dX10_readClaim_202 rfl ?_
              refine ev_callV (M' := mX10_next) [] vX10_next G10 lay_245 dX10_readClaim_203 w_1682 rfl rfl (Nat.le_of_ble_eq_true rfl) h ?_
              rintro r9 σ58 ⟨rfl, h⟩
              refine ev_aload_n 1 dX10_readClaim_206 rfl ?_
              refine ev_get G10 lay_245 (k := 50) rfl (Nat.le_of_ble_eq_true rfl) dX10_readClaim_207 w_1276 ?_
              refine ev_if_le 215 dX10_readClaim_210 (by decide) (fun c9 => ?_) (fun c9 => ?_)
              · replace h := h.1 c9
                refine ev_aload_n 1 dX10_readClaim_215 rfl ?_
                refine ev_getR (r := 277) G10 lay_245 (k := 53) rfl (Nat.le_of_ble_eq_true rfl) dX10_readClaim_216 w_1279 ?_
                refine ev_iload_n 2 dX10_readClaim_219 rfl ?_
                refine ev_iload_n 3 dX10_readClaim_220 rfl ?_
                have hb221 := h.1
                replace h := h.2
                refine ev_iast lay_277 (Nat.le_of_ble_eq_true rfl) hb221 dX10_readClaim_221 ?_
                refine ev_aload_n 1 dX10_readClaim_222 rfl ?_
                refine ev_getR (r := 278) G10 lay_245 (k := 54) rfl (Nat.le_of_ble_eq_true rfl) dX10_readClaim_223 w_1280 ?_
                refine ev_iload_n 2 dX10_readClaim_226 rfl ?_
                refine ev_iload_n 4 dX10_readClaim_227 rfl ?_
                have hb228 := h.1
                replace h := h.2
                refine ev_iast lay_278 (Nat.le_of_ble_eq_true rfl) hb228 dX10_readClaim_228 ?_
                refine ev_aload_n 1 dX10_readClaim_229 rfl ?_
                refine ev_getR (r := 279) G10 lay_245 (k := 55) rfl (Nat.le_of_ble_eq_true rfl) dX10_readClaim_230 w_1281 ?_
                refine ev_iload_n 2 dX10_readClaim_233 rfl ?_
                refine ev_aload_n 1 dX10_readClaim_234 rfl ?_
                refine ev_get G10 lay_245 (k := 58) rfl (Nat.le_of_ble_eq_true rfl) dX10_readClaim_235 w_1284 ?_
                have hb238 := h.1
                replace h := h.2
                refine ev_iast lay_279 (Nat.le_of_ble_eq_true rfl) hb238 dX10_readClaim_238 ?_
                refine ev_aload_n 1 dX10_readClaim_239 rfl ?_
                refine ev_getR (r := 280) G10 lay_245 (k := 56) rfl (Nat.le_of_ble_eq_true rfl) dX10_readClaim_240 w_1282 ?_
                refine ev_iload_n 2 dX10_readClaim_243 rfl ?_
                refine ev_bipush (-4) dX10_readClaim_244 (by decide) ?_
                have hb246 := h.1
                replace h := h.2
                refine ev_iast lay_280 (Nat.le_of_ble_eq_true rfl) hb246 dX10_readClaim_246 ?_
                refine ev_aload_n 1 dX10_readClaim_247 rfl ?_
                refine ev_getR (r := 281) G10 lay_245 (k := 57) rfl (Nat.le_of_ble_eq_true rfl) dX10_readClaim_248 w_1283 ?_
                refine ev_iload_n 2 dX10_readClaim_251 rfl ?_
                refine ev_iload 0 dX10_readClaim_252 rfl ?_
                have hb254 := h.1
                replace h := h.2
                refine ev_iast lay_281 (Nat.le_of_ble_eq_true rfl) hb254 dX10_readClaim_254 ?_
                refine ev_iload_n 2 dX10_readClaim_255 rfl ?_
                refine ev_iconst 1 dX10_readClaim_256 (by decide) ?_
                refine ev_iadd dX10_readClaim_257 ?_
                exact ev_iret rfl dX10_readClaim_258 h
              · replace h := h.2 c9
                refine ev_iload_n 2 dX10_readClaim_213 rfl ?_
                exact ev_iret rfl dX10_readClaim_214 h
            · replace h := h.1 c9
              refine ev_iconst 1 dX10_readClaim_193 (by decide) ?_
              refine ev_goto 198 dX10_readClaim_194 (by decide) ?_
              refine ev_iconst 2 dX10_readClaim_198 (by decide) ?_
              refine ev_callV (M' := mX10_wants) [.int 1, .int 2] vX10_wants G10 lay_245 dX10_readClaim_199 w_1700 rfl rfl (Nat.le_of_ble_eq_true rfl) h ?_
              rintro r9 σ59 ⟨rfl, h⟩
              refine ev_aload_n 1 dX10_readClaim_202 rfl ?_
              refine ev_callV (M' := mX10_next) [] vX10_next G10 lay_245 dX10_readClaim_203 w_1682 rfl rfl (Nat.le_of_ble_eq_true rfl) h ?_
              rintro r9 σ60 ⟨rfl, h⟩
              refine ev_aload_n 1 dX10_readClaim_206 rfl ?_
              refine ev_get G10 lay_245 (k := 50) rfl (Nat.le_of_ble_eq_true rfl) dX10_readClaim_207 w_1276 ?_
              refine ev_if_le 215 dX10_readClaim_210 (by decide) (fun c9 => ?_) (fun c9 => ?_)
              · replace h := h.1 c9
                refine ev_aload_n 1 dX10_readClaim_215 rfl ?_
                refine ev_getR (r := 277) G10 lay_245 (k := 53) rfl (Nat.le_of_ble_eq_true rfl) dX10_readClaim_216 w_1279 ?_
                refine ev_iload_n 2 dX10_readClaim_219 rfl ?_
                refine ev_iload_n 3 dX10_readClaim_220 rfl ?_
                have hb221 := h.1
                replace h := h.2
                refine ev_iast lay_277 (Nat.le_of_ble_eq_true rfl) hb221 dX10_readClaim_221 ?_
                refine ev_aload_n 1 dX10_readClaim_222 rfl ?_
                refine ev_getR (r := 278) G10 lay_245 (k := 54) rfl (Nat.le_of_ble_eq_true rfl) dX10_readClaim_223 w_1280 ?_
                refine ev_iload_n 2 dX10_readClaim_226 rfl ?_
                refine ev_iload_n 4 dX10_readClaim_227 rfl ?_
                have hb228 := h.1
                replace h := h.2
                refine ev_iast lay_278 (Nat.le_of_ble_eq_true rfl) hb228 dX10_readClaim_228 ?_
                refine ev_aload_n 1 dX10_readClaim_229 rfl ?_
                refine ev_getR (r := 279) G10 lay_245 (k := 55) rfl (Nat.le_of_ble_eq_true rfl) dX10_readClaim_230 w_1281 ?_
                refine ev_iload_n 2 dX10_readClaim_233 rfl ?_
                refine ev_aload_n 1 dX10_readClaim_234 rfl ?_
                refine ev_get G10 lay_245 (k := 58) rfl (Nat.le_of_ble_eq_true rfl) dX10_readClaim_235 w_1284 ?_
                have hb238 := h.1
                replace h := h.2
                refine ev_iast lay_279 (Nat.le_of_ble_eq_true rfl) hb238 dX10_readClaim_238 ?_
                refine ev_aload_n 1 dX10_readClaim_239 rfl ?_
                refine ev_getR (r := 280) G10 lay_245 (k := 56) rfl (Nat.le_of_ble_eq_true rfl) dX10_readClaim_240 w_1282 ?_
                refine ev_iload_n 2 dX10_readClaim_243 rfl ?_
                refine ev_bipush (-4) dX10_readClaim_244 (by decide) ?_
                have hb246 := h.1
                replace h := h.2
                refine ev_iast lay_280 (Nat.le_of_ble_eq_true rfl) hb246 dX10_readClaim_246 ?_
                refine ev_aload_n 1 dX10_readClaim_247 rfl ?_
                refine ev_getR (r := 281) G10 lay_245 (k := 57) rfl (Nat.le_of_ble_eq_true rfl) dX10_readClaim_248 w_1283 ?_
                refine ev_iload_n 2 dX10_readClaim_251 rfl ?_
                refine ev_iload 0 dX10_readClaim_252 rfl ?_
                have hb254 := h.1
                replace h := h.2
                refine ev_iast lay_281 (Nat.le_of_ble_eq_true rfl) hb254 dX10_readClaim_254 ?_
                refine ev_iload_n 2 dX10_readClaim_255 rfl ?_
                refine ev_iconst 1 dX10_readClaim_256 (by decide) ?_
                refine ev_iadd dX10_readClaim_257 ?_
                exact ev_iret rfl dX10_readClaim_258 h
              · replace h := h.2 c9
                refine ev_iload_n 2 dX10_readClaim_213 rfl ?_
                exact ev_iret rfl dX10_readClaim_214 h
        · replace h := h.1 c9
          refine ev_aload_n 1 dX10_readClaim_162 rfl ?_
          refine ev_get G10 lay_245 (k := 49) rfl (Nat.le_of_ble_eq_true rfl) dX10_readClaim_163 w_1275 ?_
          refine ev_iconst 5 dX10_readClaim_166 (by decide) ?_
          refine ev_icmp_ne 177 dX10_readClaim_167 (by decide) (fun c9 => ?_) (fun c9 => ?_)
          · replace h := h.2 c9
            refine ev_aload_n 1 dX10_readClaim_177 rfl ?_
            refine ev_get G10 lay_245 (k := 50) rfl (Nat.le_of_ble_eq_true rfl) dX10_readClaim_178 w_1276 ?_
            refine ev_if_ne 202 dX10_readClaim_181 (by decide) (fun c9 => ?_) (fun c9 => ?_)
            · replace h := h.2 c9
              refine ev_aload_n 1 dX10_readClaim_202 rfl ?_
              refine ev_callV (M' := mX10_next) [] vX10_next G10 lay_245 dX10_readClaim_203 w_1682 rfl rfl (Nat.le_of_ble_eq_true rfl) h ?_
              rintro r9 σ61 ⟨rfl, h⟩
              refine ev_aload_n 1 dX10_readClaim_206 rfl ?_
              refine ev_get G10 lay_245 (k := 50) rfl (Nat.le_of_ble_eq_true rfl) dX10_readClaim_207 w_1276 ?_
              refine ev_if_le 215 dX10_readClaim_210 (by decide) (fun c9 => ?_) (fun c9 => ?_)
              · replace h := h.1 c9
                refine ev_aload_n 1 dX10_readClaim_215 rfl ?_
                refine ev_getR (r := 277) G10 lay_245 (k := 53) rfl (Nat.le_of_ble_eq_true rfl) dX10_readClaim_216 w_1279 ?_
                refine ev_iload_n 2 dX10_readClaim_219 rfl ?_
                refine ev_iload_n 3 dX10_readClaim_220 rfl ?_
                have hb221 := h.1
                replace h := h.2
                refine ev_iast lay_277 (Nat.le_of_ble_eq_true rfl) hb221 dX10_readClaim_221 ?_
                refine ev_aload_n 1 dX10_readClaim_222 rfl ?_
                refine ev_getR (r := 278) G10 lay_245 (k := 54) rfl (Nat.le_of_ble_eq_true rfl) dX10_readClaim_223 w_1280 ?_
                refine ev_iload_n 2 dX10_readClaim_226 rfl ?_
                refine ev_iload_n 4 dX10_readClaim_227 rfl ?_
                have hb228 := h.1
                replace h := h.2
                refine ev_iast lay_278 (Nat.le_of_ble_eq_true rfl) hb228 dX10_readClaim_228 ?_
                refine ev_aload_n 1 dX10_readClaim_229 rfl ?_
                refine ev_getR (r := 279) G10 lay_245 (k := 55) rfl (Nat.le_of_ble_eq_true rfl) dX10_readClaim_230 w_1281 ?_
                refine ev_iload_n 2 dX10_readClaim_233 rfl ?_
                refine ev_aload_n 1 dX10_readClaim_234 rfl ?_
                refine ev_get G10 lay_245 (k := 58) rfl (Nat.le_of_ble_eq_true rfl) dX10_readClaim_235 w_1284 ?_
                have hb238 := h.1
                replace h := h.2
                refine ev_iast lay_279 (Nat.le_of_ble_eq_true rfl) hb238 dX10_readClaim_238 ?_
                refine ev_aload_n 1 dX10_readClaim_239 rfl ?_
                refine ev_getR (r := 280) G10 lay_245 (k := 56) rfl (Nat.le_of_ble_eq_true rfl) dX10_readClaim_240 w_1282 ?_
                refine ev_iload_n 2 dX10_readClaim_243 rfl ?_
                refine ev_bipush (-4) dX10_readClaim_244 (by decide) ?_
                have hb246 := h.1
                replace h := h.2
                refine ev_iast lay_280 (Nat.le_of_ble_eq_true rfl) hb246 dX10_readClaim_246 ?_
                refine ev_aload_n 1 dX10_readClaim_247 rfl ?_
                refine ev_getR (r := 281) G10 lay_245 (k := 57) rfl (Nat.le_of_ble_eq_true rfl) dX10_readClaim_248 w_1283 ?_
                refine ev_iload_n 2 dX10_readClaim_251 rfl ?_
                refine ev_iload 0 dX10_readClaim_252 rfl ?_
                have hb254 := h.1
                replace h := h.2
                refine ev_iast lay_281 (Nat.le_of_ble_eq_true rfl) hb254 dX10_readClaim_254 ?_
                refine ev_iload_n 2 dX10_readClaim_255 rfl ?_
                refine ev_iconst 1 dX10_readClaim_256 (by decide) ?_
                refine ev_iadd dX10_readClaim_257 ?_
                exact ev_iret rfl dX10_readClaim_258 h
              · replace h := h.2 c9
                refine ev_iload_n 2 dX10_readClaim_213 rfl ?_
                exact ev_iret rfl dX10_readClaim_214 h
            · replace h := h.1 c9
              refine ev_aload_n 1 dX10_readClaim_184 rfl ?_
              refine ev_aload_n 1 dX10_readClaim_185 rfl ?_
              refine ev_get G10 lay_245 (k := 48) rfl (Nat.le_of_ble_eq_true rfl) dX10_readClaim_186 w_1274 ?_
              refine ev_iconst 3 dX10_readClaim_189 (by decide) ?_
              refine ev_icmp_ne 197 dX10_readClaim_190 (by decide) (fun c9 => ?_) (fun c9 => ?_)
              · replace h := h.2 c9
                refine ev_iconst 0 dX10_readClaim_197 (by decide) ?_
                refine ev_iconst 2 dX10_readClaim_198 (by decide) ?_
                refine ev_callV (M' := mX10_wants) [.int 0, .int 2] vX10_wants G10 lay_245 dX10_readClaim_199 w_1700 rfl rfl (Nat.le_of_ble_eq_true rfl) h ?_
                rintro r9 σ62 ⟨rfl, h⟩
                refine ev_aload_n 1 dX10_readClaim_202 rfl ?_
                refine ev_callV (M' := mX10_next) [] vX10_next G10 lay_245 dX10_readClaim_203 w_1682 rfl rfl (Nat.le_of_ble_eq_true rfl) h ?_
                rintro r9 σ63 ⟨rfl, h⟩
                refine ev_aload_n 1 dX10_readClaim_206 rfl ?_
                refine ev_get G10 lay_245 (k := 50) rfl (Nat.le_of_ble_eq_true rfl) dX10_readClaim_207 w_1276 ?_
                refine ev_if_le 215 dX10_readClaim_210 (by decide) (fun c9 => ?_) (fun c9 => ?_)
                · replace h := h.1 c9
                  refine ev_aload_n 1 dX10_readClaim_215 rfl ?_
                  refine ev_getR (r := 277) G10 lay_245 (k := 53) rfl (Nat.le_of_ble_eq_true rfl) dX10_readClaim_216 w_1279 ?_
                  refine ev_iload_n 2 dX10_readClaim_219 rfl ?_
                  refine ev_iload_n 3 dX10_readClaim_220 rfl ?_
                  have hb221 := h.1
                  replace h := h.2
                  refine ev_iast lay_277 (Nat.le_of_ble_eq_true rfl) hb221 dX10_readClaim_221 ?_
                  refine ev_aload_n 1 dX10_readClaim_222 rfl ?_
                  refine ev_getR (r := 278) G10 lay_245 (k := 54) rfl (Nat.le_of_ble_eq_true rfl) dX10_readClaim_223 w_1280 ?_
                  refine ev_iload_n 2 dX10_readClaim_226 rfl ?_
                  refine ev_iload_n 4 dX10_readClaim_227 rfl ?_
                  have hb228 := h.1
                  replace h := h.2
                  refine ev_iast lay_278 (Nat.le_of_ble_eq_true rfl) hb228 dX10_readClaim_228 ?_
                  refine ev_aload_n 1 dX10_readClaim_229 rfl ?_
                  refine ev_getR (r := 279) G10 lay_245 (k := 55) rfl (Nat.le_of_ble_eq_true rfl) dX10_readClaim_230 w_1281 ?_
                  refine ev_iload_n 2 dX10_readClaim_233 rfl ?_
                  refine ev_aload_n 1 dX10_readClaim_234 rfl ?_
                  refine ev_get G10 lay_245 (k := 58) rfl (Nat.le_of_ble_eq_true rfl) dX10_readClaim_235 w_1284 ?_
                  have hb238 := h.1
                  replace h := h.2
                  refine ev_iast lay_279 (Nat.le_of_ble_eq_true rfl) hb238 dX10_readClaim_238 ?_
                  refine ev_aload_n 1 dX10_readClaim_239 rfl ?_
                  refine ev_getR (r := 280) G10 lay_245 (k := 56) rfl (Nat.le_of_ble_eq_true rfl) dX10_readClaim_240 w_1282 ?_
                  refine ev_iload_n 2 dX10_readClaim_243 rfl ?_
                  refine ev_bipush (-4) dX10_readClaim_244 (by decide) ?_
                  have hb246 := h.1
                  replace h := h.2
                  refine ev_iast lay_280 (Nat.le_of_ble_eq_true rfl) hb246 dX10_readClaim_246 ?_
                  refine ev_aload_n 1 dX10_readClaim_247 rfl ?_
                  refine ev_getR (r := 281) G10 lay_245 (k := 57) rfl (Nat.le_of_ble_eq_true rfl) dX10_readClaim_248 w_1283 ?_
                  refine ev_iload_n 2 dX10_readClaim_251 rfl ?_
                  refine ev_iload 0 dX10_readClaim_252 rfl ?_
                  have hb254 := h.1
                  replace h := h.2
                  refine ev_iast lay_281 (Nat.le_of_ble_eq_true rfl) hb254 dX10_readClaim_254 ?_
                  refine ev_iload_n 2 dX10_readClaim_255 rfl ?_
                  refine ev_iconst 1 dX10_readClaim_256 (by decide) ?_
                  refine ev_iadd dX10_readClaim_257 ?_
                  exact ev_iret rfl dX10_readClaim_258 h
                · replace h := h.2 c9
                  refine ev_iload_n 2 dX10_readClaim_213 rfl ?_
                  exact ev_iret rfl dX10_readClaim_214 h
              · replace h := h.1 c9
                refine ev_iconst 1 dX10_readClaim_193 (by decide) ?_
                refine ev_goto 198 dX10_readClaim_194 (by decide) ?_
                refine ev_iconst 2 dX10_readClaim_198 (by decide) ?_
                refine ev_callV (M' := mX10_wants) [.int 1, .int 2] vX10_wants G10 lay_245 dX10_readClaim_199 w_1700 rfl rfl (Nat.le_of_ble_eq_true rfl) h ?_
                rintro r9 σ64 ⟨rfl, h⟩
                refine ev_aload_n 1 dX10_readClaim_202 rfl ?_
                refine ev_callV (M' := mX10_next) [] vX10_next G10 lay_245 dX10_readClaim_203 w_1682 rfl rfl (Nat.le_of_ble_eq_true rfl) h ?_
                rintro r9 σ65 ⟨rfl, h⟩
                refine ev_aload_n 1 dX10_readClaim_206 rfl ?_
                refine ev_get G10 lay_245 (k := 50) rfl (Nat.le_of_ble_eq_true rfl) dX10_readClaim_207 w_1276 ?_
                refine ev_if_le 215 dX10_readClaim_210 (by decide) (fun c9 => ?_) (fun c9 => ?_)
                · replace h := h.1 c9
                  refine ev_aload_n 1 dX10_readClaim_215 rfl ?_
                  refine ev_getR (r := 277) G10 lay_245 (k := 53) rfl (Nat.le_of_ble_eq_true rfl) dX10_readClaim_216 w_1279 ?_
                  refine ev_iload_n 2 dX10_readClaim_219 rfl ?_
                  refine ev_iload_n 3 dX10_readClaim_220 rfl ?_
                  have hb221 := h.1
                  replace h := h.2
                  refine ev_iast lay_277 (Nat.le_of_ble_eq_true rfl) hb221 dX10_readClaim_221 ?_
                  refine ev_aload_n 1 dX10_readClaim_222 rfl ?_
                  refine ev_getR (r := 278) G10 lay_245 (k := 54) rfl (Nat.le_of_ble_eq_true rfl) dX10_readClaim_223 w_1280 ?_
                  refine ev_iload_n 2 dX10_readClaim_226 rfl ?_
                  refine ev_iload_n 4 dX10_readClaim_227 rfl ?_
                  have hb228 := h.1
                  replace h := h.2
                  refine ev_iast lay_278 (Nat.le_of_ble_eq_true rfl) hb228 dX10_readClaim_228 ?_
                  refine ev_aload_n 1 dX10_readClaim_229 rfl ?_
                  refine ev_getR (r := 279) G10 lay_245 (k := 55) rfl (Nat.le_of_ble_eq_true rfl) dX10_readClaim_230 w_1281 ?_
                  refine ev_iload_n 2 dX10_readClaim_233 rfl ?_
                  refine ev_aload_n 1 dX10_readClaim_234 rfl ?_
                  refine ev_get G10 lay_245 (k := 58) rfl (Nat.le_of_ble_eq_true rfl) dX10_readClaim_235 w_1284 ?_
                  have hb238 := h.1
                  replace h := h.2
                  refine ev_iast lay_279 (Nat.le_of_ble_eq_true rfl) hb238 dX10_readClaim_238 ?_
                  refine ev_aload_n 1 dX10_readClaim_239 rfl ?_
                  refine ev_getR (r := 280) G10 lay_245 (k := 56) rfl (Nat.le_of_ble_eq_true rfl) dX10_readClaim_240 w_1282 ?_
                  refine ev_iload_n 2 dX10_readClaim_243 rfl ?_
                  refine ev_bipush (-4) dX10_readClaim_244 (by decide) ?_
                  have hb246 := h.1
                  replace h := h.2
                  refine ev_iast lay_280 (Nat.le_of_ble_eq_true rfl) hb246 dX10_readClaim_246 ?_
                  refine ev_aload_n 1 dX10_readClaim_247 rfl ?_
                  refine ev_getR (r := 281) G10 lay_245 (k := 57) rfl (Nat.le_of_ble_eq_true rfl) dX10_readClaim_248 w_1283 ?_
                  refine ev_iload_n 2 dX10_readClaim_251 rfl ?_
                  refine ev_iload 0 dX10_readClaim_252 rfl ?_
                  have hb254 := h.1
                  replace h := h.2
                  refine ev_iast lay_281 (Nat.le_of_ble_eq_true rfl) hb254 dX10_readClaim_254 ?_
                  refine ev_iload_n 2 dX10_readClaim_255 rfl ?_
                  refine ev_iconst 1 dX10_readClaim_256 (by decide) ?_
                  refine ev_iadd dX10_readClaim_257 ?_
                  exact ev_iret rfl dX10_readClaim_258 h
                · replace h := h.2 c9
                  refine ev_iload_n 2 dX10_readClaim_213 rfl ?_
                  exact ev_iret rfl dX10_readClaim_214 h
          · replace h := h.1 c9
            refine ev_aload_n 1 dX10_readClaim_170 rfl ?_
            refine ev_iload_n 2 dX10_readClaim_171 rfl ?_
            refine ev_callV (M' := mX10_readOn) [.int x1] vX10_readOn G10 lay_245 dX10_readClaim_172 w_1710 rfl rfl (Nat.le_of_ble_eq_true rfl) h ?_
            rintro r9 σ66 ⟨v66, rfl, h⟩
            refine ev_istore (lv' := [(4, .int v66), (0, .ref 245), (1, .int x1), (2, .int x2), (3, .int x3)]) dX10_readClaim_175 (Nat.le_of_ble_eq_true rfl) rfl ?_
            refine ev_aload_n 1 dX10_readClaim_177 rfl ?_
            refine ev_get G10 lay_245 (k := 50) rfl (Nat.le_of_ble_eq_true rfl) dX10_readClaim_178 w_1276 ?_
            refine ev_if_ne 202 dX10_readClaim_181 (by decide) (fun c9 => ?_) (fun c9 => ?_)
            · replace h := h.2 c9
              refine ev_aload_n 1 dX10_readClaim_202 rfl ?_
              refine ev_callV (M' := mX10_next) [] vX10_next G10 lay_245 dX10_readClaim_203 w_1682 rfl rfl (Nat.le_of_ble_eq_true rfl) h ?_
              rintro r9 σ67 ⟨rfl, h⟩
              refine ev_aload_n 1 dX10_readClaim_206 rfl ?_
              refine ev_get G10 lay_245 (k := 50) rfl (Nat.le_of_ble_eq_true rfl) dX10_readClaim_207 w_1276 ?_
              refine ev_if_le 215 dX10_readClaim_210 (by decide) (fun c9 => ?_) (fun c9 => ?_)
              · replace h := h.1 c9
                refine ev_aload_n 1 dX10_readClaim_215 rfl ?_
                refine ev_getR (r := 277) G10 lay_245 (k := 53) rfl (Nat.le_of_ble_eq_true rfl) dX10_readClaim_216 w_1279 ?_
                refine ev_iload_n 2 dX10_readClaim_219 rfl ?_
                refine ev_iload_n 3 dX10_readClaim_220 rfl ?_
                have hb221 := h.1
                replace h := h.2
                refine ev_iast lay_277 (Nat.le_of_ble_eq_true rfl) hb221 dX10_readClaim_221 ?_
                refine ev_aload_n 1 dX10_readClaim_222 rfl ?_
                refine ev_getR (r := 278) G10 lay_245 (k := 54) rfl (Nat.le_of_ble_eq_true rfl) dX10_readClaim_223 w_1280 ?_
                refine ev_iload_n 2 dX10_readClaim_226 rfl ?_
                refine ev_iload_n 4 dX10_readClaim_227 rfl ?_
                have hb228 := h.1
                replace h := h.2
                refine ev_iast lay_278 (Nat.le_of_ble_eq_true rfl) hb228 dX10_readClaim_228 ?_
                refine ev_aload_n 1 dX10_readClaim_229 rfl ?_
                refine ev_getR (r := 279) G10 lay_245 (k := 55) rfl (Nat.le_of_ble_eq_true rfl) dX10_readClaim_230 w_1281 ?_
                refine ev_iload_n 2 dX10_readClaim_233 rfl ?_
                refine ev_aload_n 1 dX10_readClaim_234 rfl ?_
                refine ev_get G10 lay_245 (k := 58) rfl (Nat.le_of_ble_eq_true rfl) dX10_readClaim_235 w_1284 ?_
                have hb238 := h.1
                replace h := h.2
                refine ev_iast lay_279 (Nat.le_of_ble_eq_true rfl) hb238 dX10_readClaim_238 ?_
                refine ev_aload_n 1 dX10_readClaim_239 rfl ?_
                refine ev_getR (r := 280) G10 lay_245 (k := 56) rfl (Nat.le_of_ble_eq_true rfl) dX10_readClaim_240 w_1282 ?_
                refine ev_iload_n 2 dX10_readClaim_243 rfl ?_
                refine ev_bipush (-4) dX10_readClaim_244 (by decide) ?_
                have hb246 := h.1
                replace h := h.2
                refine ev_iast lay_280 (Nat.le_of_ble_eq_true rfl) hb246 dX10_readClaim_246 ?_
                refine ev_aload_n 1 dX10_readClaim_247 rfl ?_
                refine ev_getR (r := 281) G10 lay_245 (k := 57) rfl (Nat.le_of_ble_eq_true rfl) dX10_readClaim_248 w_1283 ?_
                refine ev_iload_n 2 dX10_readClaim_251 rfl ?_
                refine ev_iload 0 dX10_readClaim_252 rfl ?_
                have hb254 := h.1
                replace h := h.2
                refine ev_iast lay_281 (Nat.le_of_ble_eq_true rfl) hb254 dX10_readClaim_254 ?_
                refine ev_iload_n 2 dX10_readClaim_255 rfl ?_
                refine ev_iconst 1 dX10_readClaim_256 (by decide) ?_
                refine ev_iadd dX10_readClaim_257 ?_
                exact ev_iret rfl dX10_readClaim_258 h
              · replace h := h.2 c9
                refine ev_iload_n 2 dX10_readClaim_213 rfl ?_
                exact ev_iret rfl dX10_readClaim_214 h
            · replace h := h.1 c9
              refine ev_aload_n 1 dX10_readClaim_184 rfl ?_
              refine ev_aload_n 1 dX10_readClaim_185 rfl ?_
              refine ev_get G10 lay_245 (k := 48) rfl (Nat.le_of_ble_eq_true rfl) dX10_readClaim_186 w_1274 ?_
              refine ev_iconst 3 dX10_readClaim_189 (by decide) ?_
              refine ev_icmp_ne 197 dX10_readClaim_190 (by decide) (fun c9 => ?_) (fun c9 => ?_)
              · replace h := h.2 c9
                refine ev_iconst 0 dX10_readClaim_197 (by decide) ?_
                refine ev_iconst 2 dX10_readClaim_198 (by decide) ?_
                refine ev_callV (M' := mX10_wants) [.int 0, .int 2] vX10_wants G10 lay_245 dX10_readClaim_199 w_1700 rfl rfl (Nat.le_of_ble_eq_true rfl) h ?_
                rintro r9 σ68 ⟨rfl, h⟩
                refine ev_aload_n 1 dX10_readClaim_202 rfl ?_
                refine ev_callV (M' := mX10_next) [] vX10_next G10 lay_245 dX10_readClaim_203 w_1682 rfl rfl (Nat.le_of_ble_eq_true rfl) h ?_
                rintro r9 σ69 ⟨rfl, h⟩
                refine ev_aload_n 1 dX10_readClaim_206 rfl ?_
                refine ev_get G10 lay_245 (k := 50) rfl (Nat.le_of_ble_eq_true rfl) dX10_readClaim_207 w_1276 ?_
                refine ev_if_le 215 dX10_readClaim_210 (by decide) (fun c9 => ?_) (fun c9 => ?_)
                · replace h := h.1 c9
                  refine ev_aload_n 1 dX10_readClaim_215 rfl ?_
                  refine ev_getR (r := 277) G10 lay_245 (k := 53) rfl (Nat.le_of_ble_eq_true rfl) dX10_readClaim_216 w_1279 ?_
                  refine ev_iload_n 2 dX10_readClaim_219 rfl ?_
                  refine ev_iload_n 3 dX10_readClaim_220 rfl ?_
                  have hb221 := h.1
                  replace h := h.2
                  refine ev_iast lay_277 (Nat.le_of_ble_eq_true rfl) hb221 dX10_readClaim_221 ?_
                  refine ev_aload_n 1 dX10_readClaim_222 rfl ?_
                  refine ev_getR (r := 278) G10 lay_245 (k := 54) rfl (Nat.le_of_ble_eq_true rfl) dX10_readClaim_223 w_1280 ?_
                  refine ev_iload_n 2 dX10_readClaim_226 rfl ?_
                  refine ev_iload_n 4 dX10_readClaim_227 rfl ?_
                  have hb228 := h.1
                  replace h := h.2
                  refine ev_iast lay_278 (Nat.le_of_ble_eq_true rfl) hb228 dX10_readClaim_228 ?_
                  refine ev_aload_n 1 dX10_readClaim_229 rfl ?_
                  refine ev_getR (r := 279) G10 lay_245 (k := 55) rfl (Nat.le_of_ble_eq_true rfl) dX10_readClaim_230 w_1281 ?_
                  refine ev_iload_n 2 dX10_readClaim_233 rfl ?_
                  refine ev_aload_n 1 dX10_readClaim_234 rfl ?_
                  refine ev_get G10 lay_245 (k := 58) rfl (Nat.le_of_ble_eq_true rfl) dX10_readClaim_235 w_1284 ?_
                  have hb238 := h.1
                  replace h := h.2
                  refine ev_iast lay_279 (Nat.le_of_ble_eq_true rfl) hb238 dX10_readClaim_238 ?_
                  refine ev_aload_n 1 dX10_readClaim_239 rfl ?_
                  refine ev_getR (r := 280) G10 lay_245 (k := 56) rfl (Nat.le_of_ble_eq_true rfl) dX10_readClaim_240 w_1282 ?_
                  refine ev_iload_n 2 dX10_readClaim_243 rfl ?_
                  refine ev_bipush (-4) dX10_readClaim_244 (by decide) ?_
                  have hb246 := h.1
                  replace h := h.2
                  refine ev_iast lay_280 (Nat.le_of_ble_eq_true rfl) hb246 dX10_readClaim_246 ?_
                  refine ev_aload_n 1 dX10_readClaim_247 rfl ?_
                  refine ev_getR (r := 281) G10 lay_245 (k := 57) rfl (Nat.le_of_ble_eq_true rfl) dX10_readClaim_248 w_1283 ?_
                  refine ev_iload_n 2 dX10_readClaim_251 rfl ?_
                  refine ev_iload 0 dX10_readClaim_252 rfl ?_
                  have hb254 := h.1
                  replace h := h.2
                  refine ev_iast lay_281 (Nat.le_of_ble_eq_true rfl) hb254 dX10_readClaim_254 ?_
                  refine ev_iload_n 2 dX10_readClaim_255 rfl ?_
                  refine ev_iconst 1 dX10_readClaim_256 (by decide) ?_
                  refine ev_iadd dX10_readClaim_257 ?_
                  exact ev_iret rfl dX10_readClaim_258 h
                · replace h := h.2 c9
                  refine ev_iload_n 2 dX10_readClaim_213 rfl ?_
                  exact ev_iret rfl dX10_readClaim_214 h
              · replace h := h.1 c9
                refine ev_iconst 1 dX10_readClaim_193 (by decide) ?_
                refine ev_goto 198 dX10_readClaim_194 (by decide) ?_
                refine ev_iconst 2 dX10_readClaim_198 (by decide) ?_
                refine ev_callV (M' := mX10_wants) [.int 1, .int 2] vX10_wants G10 lay_245 dX10_readClaim_199 w_1700 rfl rfl (Nat.le_of_ble_eq_true rfl) h ?_
                rintro r9 σ70 ⟨rfl, h⟩
                refine ev_aload_n 1 dX10_readClaim_202 rfl ?_
                refine ev_callV (M' := mX10_next) [] vX10_next G10 lay_245 dX10_readClaim_203 w_1682 rfl rfl (Nat.le_of_ble_eq_true rfl) h ?_
                rintro r9 σ71 ⟨rfl, h⟩
                refine ev_aload_n 1 dX10_readClaim_206 rfl ?_
                refine ev_get G10 lay_245 (k := 50) rfl (Nat.le_of_ble_eq_true rfl) dX10_readClaim_207 w_1276 ?_
                refine ev_if_le 215 dX10_readClaim_210 (by decide) (fun c9 => ?_) (fun c9 => ?_)
                · replace h := h.1 c9
                  refine ev_aload_n 1 dX10_readClaim_215 rfl ?_
                  refine ev_getR (r := 277) G10 lay_245 (k := 53) rfl (Nat.le_of_ble_eq_true rfl) dX10_readClaim_216 w_1279 ?_
                  refine ev_iload_n 2 dX10_readClaim_219 rfl ?_
                  refine ev_iload_n 3 dX10_readClaim_220 rfl ?_
                  have hb221 := h.1
                  replace h := h.2
                  refine ev_iast lay_277 (Nat.le_of_ble_eq_true rfl) hb221 dX10_readClaim_221 ?_
                  refine ev_aload_n 1 dX10_readClaim_222 rfl ?_
                  refine ev_getR (r := 278) G10 lay_245 (k := 54) rfl (Nat.le_of_ble_eq_true rfl) dX10_readClaim_223 w_1280 ?_
                  refine ev_iload_n 2 dX10_readClaim_226 rfl ?_
                  refine ev_iload_n 4 dX10_readClaim_227 rfl ?_
                  have hb228 := h.1
                  replace h := h.2
                  refine ev_iast lay_278 (Nat.le_of_ble_eq_true rfl) hb228 dX10_readClaim_228 ?_
                  refine ev_aload_n 1 dX10_readClaim_229 rfl ?_
                  refine ev_getR (r := 279) G10 lay_245 (k := 55) rfl (Nat.le_of_ble_eq_true rfl) dX10_readClaim_230 w_1281 ?_
                  refine ev_iload_n 2 dX10_readClaim_233 rfl ?_
                  refine ev_aload_n 1 dX10_readClaim_234 rfl ?_
                  refine ev_get G10 lay_245 (k := 58) rfl (Nat.le_of_ble_eq_true rfl) dX10_readClaim_235 w_1284 ?_
                  have hb238 := h.1
                  replace h := h.2
                  refine ev_iast lay_279 (Nat.le_of_ble_eq_true rfl) hb238 dX10_readClaim_238 ?_
                  refine ev_aload_n 1 dX10_readClaim_239 rfl ?_
                  refine ev_getR (r := 280) G10 lay_245 (k := 56) rfl (Nat.le_of_ble_eq_true rfl) dX10_readClaim_240 w_1282 ?_
                  refine ev_iload_n 2 dX10_readClaim_243 rfl ?_
                  refine ev_bipush (-4) dX10_readClaim_244 (by decide) ?_
                  have hb246 := h.1
                  replace h := h.2
                  refine ev_iast lay_280 (Nat.le_of_ble_eq_true rfl) hb246 dX10_readClaim_246 ?_
                  refine ev_aload_n 1 dX10_readClaim_247 rfl ?_
                  refine ev_getR (r := 281) G10 lay_245 (k := 57) rfl (Nat.le_of_ble_eq_true rfl) dX10_readClaim_248 w_1283 ?_
                  refine ev_iload_n 2 dX10_readClaim_251 rfl ?_
                  refine ev_iload 0 dX10_readClaim_252 rfl ?_
                  have hb254 := h.1
                  replace h := h.2
                  refine ev_iast lay_281 (Nat.le_of_ble_eq_true rfl) hb254 dX10_readClaim_254 ?_
                  refine ev_iload_n 2 dX10_readClaim_255 rfl ?_
                  refine ev_iconst 1 dX10_readClaim_256 (by decide) ?_
                  refine ev_iadd dX10_readClaim_257 ?_
                  exact ev_iret rfl dX10_readClaim_258 h
                · replace h := h.2 c9
                  refine ev_iload_n 2 dX10_readClaim_213 rfl ?_
                  exact ev_iret rfl dX10_readClaim_214 h
    · replace h := h.1 c9
      refine ev_aload_n 0 dX10_readClaim_90 rfl ?_
      refine ev_aload_n 0 dX10_readClaim_91 rfl ?_
      refine ev_getR (r := 277) G10 lay_245 (k := 53) rfl (Nat.le_of_ble_eq_true rfl) dX10_readClaim_92 w_1279 ?_
      refine ev_iload 4 dX10_readClaim_95 rfl ?_
      have hb97 := h.1
      replace h := h.2
      refine ev_iald lay_277 (Nat.le_of_ble_eq_true rfl) hb97 dX10_readClaim_97 ?_
      refine ev_iload_n 2 dX10_readClaim_98 rfl ?_
      refine ev_icmp_ne 125 dX10_readClaim_99 (by decide) (fun c9 => ?_) (fun c9 => ?_)
      · replace h := h.2 c9
        refine ev_iconst 1 dX10_readClaim_125 (by decide) ?_
        refine ev_goto 130 dX10_readClaim_126 (by decide) ?_
        refine ev_iconst 4 dX10_readClaim_130 (by decide) ?_
        refine ev_callV (M' := mX10_wants) [.int 1, .int 4] vX10_wants G10 lay_245 dX10_readClaim_131 w_1700 rfl rfl (Nat.le_of_ble_eq_true rfl) h ?_
        rintro r9 σ72 ⟨rfl, h⟩
        refine ev_iinc (lv' := [(4, .int (x4 + 1)), (0, .ref 245), (1, .int x1), (2, .int x2), (3, .int x3)]) (x4 + 1) 4 dX10_readClaim_134 rfl rfl (Nat.le_of_ble_eq_true rfl) rfl ?_
        refine ev_goto 77 dX10_readClaim_137 (by decide) ?_
        refine ev_sub [1, 2, 3, 4, 0] rfl ?_
        exact h
      · replace h := h.1 c9
        refine ev_aload_n 0 dX10_readClaim_102 rfl ?_
        refine ev_getR (r := 278) G10 lay_245 (k := 54) rfl (Nat.le_of_ble_eq_true rfl) dX10_readClaim_103 w_1280 ?_
        refine ev_iload 4 dX10_readClaim_106 rfl ?_
        have hb108 := h.1
        replace h := h.2
        refine ev_iald lay_278 (Nat.le_of_ble_eq_true rfl) hb108 dX10_readClaim_108 ?_
        refine ev_iload_n 3 dX10_readClaim_109 rfl ?_
        refine ev_icmp_ne 125 dX10_readClaim_110 (by decide) (fun c9 => ?_) (fun c9 => ?_)
        · replace h := h.2 c9
          refine ev_iconst 1 dX10_readClaim_125 (by decide) ?_
          refine ev_goto 130 dX10_readClaim_126 (by decide) ?_
          refine ev_iconst 4 dX10_readClaim_130 (by decide) ?_
          refine ev_callV (M' := mX10_wants) [.int 1, .int 4] vX10_wants G10 lay_245 dX10_readClaim_131 w_1700 rfl rfl (Nat.le_of_ble_eq_true rfl) h ?_
          rintro r9 σ73 ⟨rfl, h⟩
          refine ev_iinc (lv' := [(4, .int (x4 + 1)), (0, .ref 245), (1, .int x1), (2, .int x2), (3, .int x3)]) (x4 + 1) 4 dX10_readClaim_134 rfl rfl (Nat.le_of_ble_eq_true rfl) rfl ?_
          refine ev_goto 77 dX10_readClaim_137 (by decide) ?_
          refine ev_sub [1, 2, 3, 4, 0] rfl ?_
          exact h
        · replace h := h.1 c9
          refine ev_aload_n 0 dX10_readClaim_113 rfl ?_
          refine ev_getR (r := 280) G10 lay_245 (k := 56) rfl (Nat.le_of_ble_eq_true rfl) dX10_readClaim_114 w_1282 ?_
          refine ev_iload 4 dX10_readClaim_117 rfl ?_
          have hb119 := h.1
          replace h := h.2
          refine ev_iald lay_280 (Nat.le_of_ble_eq_true rfl) hb119 dX10_readClaim_119 ?_
          refine ev_bipush (-4) dX10_readClaim_120 (by decide) ?_
          refine ev_icmp_eq 129 dX10_readClaim_122 (by decide) (fun c9 => ?_) (fun c9 => ?_)
          · replace h := h.1 c9
            refine ev_iconst 0 dX10_readClaim_129 (by decide) ?_
            refine ev_iconst 4 dX10_readClaim_130 (by decide) ?_
            refine ev_callV (M' := mX10_wants) [.int 0, .int 4] vX10_wants G10 lay_245 dX10_readClaim_131 w_1700 rfl rfl (Nat.le_of_ble_eq_true rfl) h ?_
            rintro r9 σ74 ⟨rfl, h⟩
            refine ev_iinc (lv' := [(4, .int (x4 + 1)), (0, .ref 245), (1, .int x1), (2, .int x2), (3, .int x3)]) (x4 + 1) 4 dX10_readClaim_134 rfl rfl (Nat.le_of_ble_eq_true rfl) rfl ?_
            refine ev_goto 77 dX10_readClaim_137 (by decide) ?_
            refine ev_sub [1, 2, 3, 4, 0] rfl ?_
            exact h
          · replace h := h.2 c9
            refine ev_iconst 1 dX10_readClaim_125 (by decide) ?_
            refine ev_goto 130 dX10_readClaim_126 (by decide) ?_
            refine ev_iconst 4 dX10_readClaim_130 (by decide) ?_
            refine ev_callV (M' := mX10_wants) [.int 1, .int 4] vX10_wants G10 lay_245 dX10_readClaim_131 w_1700 rfl rfl (Nat.le_of_ble_eq_true rfl) h ?_
            rintro r9 σ75 ⟨rfl, h⟩
            refine ev_iinc (lv' := [(4, .int (x4 + 1)), (0, .ref 245), (1, .int x1), (2, .int x2), (3, .int x3)]) (x4 + 1) 4 dX10_readClaim_134 rfl rfl (Nat.le_of_ble_eq_true rfl) rfl ?_
            refine ev_goto 77 dX10_readClaim_137 (by decide) ?_
            refine ev_sub [1, 2, 3, 4, 0] rfl ?_
            exact h
abbrev KX10_claims_19 (N : Nat) (σ : Sg) (Q : Option Value → Sg → Prop) (x1 : Int32) : Prop := Ev (N + 6) mX10_claims 19 [(0, .ref 245), (1, .int x1)] [] σ Q
theorem EX10_claims {N : Nat} {σ : Sg} {Q : Option Value → Sg → Prop} (h : EvM (N + 5) mX10_next [.ref 245] (u1 (u1 σ 245 50 0) 245 46 0) (fun r9 σ1 => r9 = none ∧ (KX10_claims_19 N σ1 Q (σ.1 245 52)))) : EvM (N + 6) mX10_claims [.ref 245] σ Q := by
  refine ev_entry rfl (Nat.le_of_ble_eq_true rfl) (lv := [(0, .ref 245)]) rfl ?_
  refine ev_aload_n 0 dX10_claims_0 rfl ?_
  refine ev_get G10 lay_245 (k := 52) rfl (Nat.le_of_ble_eq_true rfl) dX10_claims_1 w_1278 ?_
  refine ev_istore_n (lv' := [(1, .int (σ.1 245 52)), (0, .ref 245)]) dX10_claims_4 (Nat.le_of_ble_eq_true rfl) rfl ?_
  refine ev_aload_n 1 dX10_claims_5 rfl ?_
  refine ev_iconst 0 dX10_claims_6 (by decide) ?_
  refine ev_put G10 lay_245 (k := 50) rfl (Nat.le_of_ble_eq_true rfl) rfl (by decide +kernel) dX10_claims_7 w_1276 ?_
  refine ev_aload_n 1 dX10_claims_10 rfl ?_
  refine ev_iconst 0 dX10_claims_11 (by decide) ?_
  refine ev_put G10 lay_245 (k := 46) rfl (Nat.le_of_ble_eq_true rfl) rfl (by decide +kernel) dX10_claims_12 w_1272 ?_
  refine ev_aload_n 1 dX10_claims_15 rfl ?_
  refine ev_callV (M' := mX10_next) [] vX10_next G10 lay_245 dX10_claims_16 w_1682 rfl rfl (Nat.le_of_ble_eq_true rfl) h ?_
  rintro r9 σ1 ⟨rfl, h⟩
  refine ev_sub [1, 0] rfl ?_
  exact h
theorem BX10_claims_19 {N : Nat} {σ : Sg} {Q : Option Value → Sg → Prop} {x1 : Int32} (h : ((σ.1 245 50) = 0 → ((σ.1 245 48) = 0 → (((u1 σ 245 45 0).1 245 50) ≤ 0 → Q (some (.int (x1 - ((u1 σ 245 45 0).1 245 52)))) (u1 (u1 σ 245 45 0) 245 52 x1)) ∧ (¬ ((u1 σ 245 45 0).1 245 50) ≤ 0 → Q (some (.int ((-10) - ((u1 σ 245 45 0).1 245 51)))) (u1 σ 245 45 0))) ∧ (¬ (σ.1 245 48) = 0 → EvM (N + 5) mX10_readClaim [.ref 245, .int x1] σ (fun r9 σ2 => ∃ v2, r9 = some (.int v2) ∧ (KX10_claims_19 N σ2 Q v2)))) ∧ (¬ (σ.1 245 50) = 0 → (((u1 σ 245 45 0).1 245 50) ≤ 0 → Q (some (.int (x1 - ((u1 σ 245 45 0).1 245 52)))) (u1 (u1 σ 245 45 0) 245 52 x1)) ∧ (¬ ((u1 σ 245 45 0).1 245 50) ≤ 0 → Q (some (.int ((-10) - ((u1 σ 245 45 0).1 245 51)))) (u1 σ 245 45 0)))) : KX10_claims_19 N σ Q x1 := by
  refine ev_aload_n 0 dX10_claims_19 rfl ?_
  refine ev_get G10 lay_245 (k := 50) rfl (Nat.le_of_ble_eq_true rfl) dX10_claims_20 w_1276 ?_
  refine ev_if_ne 42 dX10_claims_23 (by decide) (fun c9 => ?_) (fun c9 => ?_)
  · replace h := h.2 c9
    refine ev_aload_n 0 dX10_claims_42 rfl ?_
    refine ev_iconst 0 dX10_claims_43 (by decide) ?_
    refine ev_put G10 lay_245 (k := 45) rfl (Nat.le_of_ble_eq_true rfl) rfl (by decide +kernel) dX10_claims_44 w_1271 ?_
    refine ev_aload_n 0 dX10_claims_47 rfl ?_
    refine ev_get G10 lay_245 (k := 50) rfl (Nat.le_of_ble_eq_true rfl) dX10_claims_48 w_1276 ?_
    refine ev_if_le 62 dX10_claims_51 (by decide) (fun c9 => ?_) (fun c9 => ?_)
    · replace h := h.1 c9
      refine ev_iload_n 1 dX10_claims_62 rfl ?_
      refine ev_aload_n 0 dX10_claims_63 rfl ?_
      refine ev_get G10 lay_245 (k := 52) rfl (Nat.le_of_ble_eq_true rfl) dX10_claims_64 w_1278 ?_
      refine ev_isub dX10_claims_67 ?_
      refine ev_istore_n (lv' := [(2, .int (x1 - ((u1 σ 245 45 0).1 245 52))), (0, .ref 245), (1, .int x1)]) dX10_claims_68 (Nat.le_of_ble_eq_true rfl) rfl ?_
      refine ev_aload_n 1 dX10_claims_69 rfl ?_
      refine ev_iload_n 2 dX10_claims_70 rfl ?_
      refine ev_put G10 lay_245 (k := 52) rfl (Nat.le_of_ble_eq_true rfl) rfl (by decide +kernel) dX10_claims_71 w_1278 ?_
      refine ev_iload_n 0 dX10_claims_74 rfl ?_
      exact ev_iret rfl dX10_claims_75 h
    · replace h := h.2 c9
      refine ev_bipush (-10) dX10_claims_54 (by decide) ?_
      refine ev_aload_n 0 dX10_claims_56 rfl ?_
      refine ev_get G10 lay_245 (k := 51) rfl (Nat.le_of_ble_eq_true rfl) dX10_claims_57 w_1277 ?_
      refine ev_isub dX10_claims_60 ?_
      exact ev_iret rfl dX10_claims_61 h
  · replace h := h.1 c9
    refine ev_aload_n 0 dX10_claims_26 rfl ?_
    refine ev_get G10 lay_245 (k := 48) rfl (Nat.le_of_ble_eq_true rfl) dX10_claims_27 w_1274 ?_
    refine ev_if_eq 42 dX10_claims_30 (by decide) (fun c9 => ?_) (fun c9 => ?_)
    · replace h := h.1 c9
      refine ev_aload_n 0 dX10_claims_42 rfl ?_
      refine ev_iconst 0 dX10_claims_43 (by decide) ?_
      refine ev_put G10 lay_245 (k := 45) rfl (Nat.le_of_ble_eq_true rfl) rfl (by decide +kernel) dX10_claims_44 w_1271 ?_
      refine ev_aload_n 0 dX10_claims_47 rfl ?_
      refine ev_get G10 lay_245 (k := 50) rfl (Nat.le_of_ble_eq_true rfl) dX10_claims_48 w_1276 ?_
      refine ev_if_le 62 dX10_claims_51 (by decide) (fun c9 => ?_) (fun c9 => ?_)
      · replace h := h.1 c9
        refine ev_iload_n 1 dX10_claims_62 rfl ?_
        refine ev_aload_n 0 dX10_claims_63 rfl ?_
        refine ev_get G10 lay_245 (k := 52) rfl (Nat.le_of_ble_eq_true rfl) dX10_claims_64 w_1278 ?_
        refine ev_isub dX10_claims_67 ?_
        refine ev_istore_n (lv' := [(2, .int (x1 - ((u1 σ 245 45 0).1 245 52))), (0, .ref 245), (1, .int x1)]) dX10_claims_68 (Nat.le_of_ble_eq_true rfl) rfl ?_
        refine ev_aload_n 1 dX10_claims_69 rfl ?_
        refine ev_iload_n 2 dX10_claims_70 rfl ?_
        refine ev_put G10 lay_245 (k := 52) rfl (Nat.le_of_ble_eq_true rfl) rfl (by decide +kernel) dX10_claims_71 w_1278 ?_
        refine ev_iload_n 0 dX10_claims_74 rfl ?_
        exact ev_iret rfl dX10_claims_75 h
      · replace h := h.2 c9
        refine ev_bipush (-10) dX10_claims_54 (by decide) ?_
        refine ev_aload_n 0 dX10_claims_56 rfl ?_
        refine ev_get G10 lay_245 (k := 51) rfl (Nat.le_of_ble_eq_true rfl) dX10_claims_57 w_1277 ?_
        refine ev_isub dX10_claims_60 ?_
        exact ev_iret rfl dX10_claims_61 h
    · replace h := h.2 c9
      refine ev_aload_n 0 dX10_claims_33 rfl ?_
      refine ev_iload_n 1 dX10_claims_34 rfl ?_
      refine ev_callV (M' := mX10_readClaim) [.int x1] vX10_readClaim G10 lay_245 dX10_claims_35 w_1706 rfl rfl (Nat.le_of_ble_eq_true rfl) h ?_
      rintro r9 σ2 ⟨v2, rfl, h⟩
      refine ev_istore_n (lv' := [(1, .int v2), (0, .ref 245)]) dX10_claims_38 (Nat.le_of_ble_eq_true rfl) rfl ?_
      refine ev_goto 19 dX10_claims_39 (by decide) ?_
      refine ev_sub [1, 0] rfl ?_
      exact h
theorem EX10_isClaim {N : Nat} {σ : Sg} {Q : Option Value → Sg → Prop} {x1 : Int32} (h : ((0 ≤ ((x1).toInt64).toInt ∧ ((x1).toInt64).toInt ≤ (((σ.1 245 52) - 1).toInt64).toInt) → Q (some (.int 1)) σ) ∧ (¬ (0 ≤ ((x1).toInt64).toInt ∧ ((x1).toInt64).toInt ≤ (((σ.1 245 52) - 1).toInt64).toInt) → Q (some (.int 0)) σ)) : EvM (N + 1) mX10_isClaim [.ref 245, .int x1] σ Q := by
  refine ev_entry rfl (Nat.le_of_ble_eq_true rfl) (lv := [(0, .ref 245), (1, .int x1)]) rfl ?_
  refine ev_iload_n 1 dX10_isClaim_0 rfl ?_
  refine ev_i2l dX10_isClaim_1 ?_
  refine ev_lconst 0 dX10_isClaim_2 (by decide) ?_
  refine ev_aload_n 0 dX10_isClaim_3 rfl ?_
  refine ev_get G10 lay_245 (k := 52) rfl (Nat.le_of_ble_eq_true rfl) dX10_isClaim_4 w_1278 ?_
  refine ev_iconst 1 dX10_isClaim_7 (by decide) ?_
  refine ev_isub dX10_isClaim_8 ?_
  refine ev_i2l dX10_isClaim_9 ?_
  refine ev_callS (M' := mX10_in) [.long ((x1).toInt64), .long 0, .long (((σ.1 245 52) - 1).toInt64)] vX10_in dX10_isClaim_10 w_1421 rfl rfl (Nat.le_of_ble_eq_true rfl) (C10_in (P := 0 ≤ ((x1).toInt64).toInt ∧ ((x1).toInt64).toInt ≤ (((σ.1 245 52) - 1).toInt64).toInt) (by (try simp only [i_l]); exact Iff.rfl) (Q := fun r9 s9 => σ = s9 ∧ ((r9 = some (.int 1) ∧ (0 ≤ ((x1).toInt64).toInt ∧ ((x1).toInt64).toInt ≤ (((σ.1 245 52) - 1).toInt64).toInt)) ∨ (r9 = some (.int 0) ∧ ¬ (0 ≤ ((x1).toInt64).toInt ∧ ((x1).toInt64).toInt ≤ (((σ.1 245 52) - 1).toInt64).toInt)))) ⟨fun c9 => ⟨rfl, Or.inl ⟨rfl, c9⟩⟩, fun c9 => ⟨rfl, Or.inr ⟨rfl, c9⟩⟩⟩) ?_
  rintro r9 s9 ⟨rfl, ⟨rfl, c9⟩ | ⟨rfl, c9⟩⟩
  · replace h := h.1 c9
    exact ev_zret (ty := .boolean) rfl (by rfl) dX10_isClaim_13 h
  · replace h := h.2 c9
    exact ev_zret (ty := .boolean) rfl (by rfl) dX10_isClaim_13 h
abbrev KX10_hanging_8 (N : Nat) (σ : Sg) (Q : Option Value → Sg → Prop) (x2 : Int32) (x3 : Int32) : Prop := Ev N mX10_hanging 8 [(0, .ref 245), (2, .int x2), (3, .int x3)] [] σ Q
theorem EX10_hanging {N : Nat} {σ : Sg} {Q : Option Value → Sg → Prop} {x1 : Int32} (h : KX10_hanging_8 N σ Q (1 <<< (x1 &&& 31)) (x1 + 1)) : EvM N mX10_hanging [.ref 245, .int x1] σ Q := by
  refine ev_entry rfl (Nat.le_of_ble_eq_true rfl) (lv := [(0, .ref 245), (1, .int x1)]) rfl ?_
  refine ev_iconst 1 dX10_hanging_0 (by decide) ?_
  refine ev_iload_n 1 dX10_hanging_1 rfl ?_
  refine ev_ishl dX10_hanging_2 ?_
  refine ev_istore_n (lv' := [(2, .int (1 <<< (x1 &&& 31))), (0, .ref 245), (1, .int x1)]) dX10_hanging_3 (Nat.le_of_ble_eq_true rfl) rfl ?_
  refine ev_iload_n 2 dX10_hanging_4 rfl ?_
  refine ev_iconst 1 dX10_hanging_5 (by decide) ?_
  refine ev_iadd dX10_hanging_6 ?_
  refine ev_istore_n (lv' := [(3, .int (x1 + 1)), (2, .int (1 <<< (x1 &&& 31))), (0, .ref 245), (1, .int x1)]) dX10_hanging_7 (Nat.le_of_ble_eq_true rfl) rfl ?_
  refine ev_sub [2, 1, 0] rfl ?_
  exact h
theorem BX10_hanging_8 {N : Nat} {σ : Sg} {Q : Option Value → Sg → Prop} {x2 : Int32} {x3 : Int32} (h : ((σ.1 245 52) ≤ x3 → Q (some (.int x2)) σ) ∧ (¬ (σ.1 245 52) ≤ x3 → vp_in x3 20 ∧ ((((σ.1 281 (x3).toNatClampNeg) &&& x2) = 0 → KX10_hanging_8 N σ Q (x2 ||| 0) (x3 + 1)) ∧ (¬ ((σ.1 281 (x3).toNatClampNeg) &&& x2) = 0 → KX10_hanging_8 N σ Q (x2 ||| (1 <<< (x3 &&& 31))) (x3 + 1))))) : KX10_hanging_8 N σ Q x2 x3 := by
  refine ev_iload_n 2 dX10_hanging_8 rfl ?_
  refine ev_aload_n 0 dX10_hanging_9 rfl ?_
  refine ev_get G10 lay_245 (k := 52) rfl (Nat.le_of_ble_eq_true rfl) dX10_hanging_10 w_1278 ?_
  refine ev_icmp_ge 43 dX10_hanging_13 (by decide) (fun c9 => ?_) (fun c9 => ?_)
  · replace h := h.1 c9
    refine ev_iload_n 1 dX10_hanging_43 rfl ?_
    exact ev_iret rfl dX10_hanging_44 h
  · replace h := h.2 c9
    refine ev_iload_n 1 dX10_hanging_16 rfl ?_
    refine ev_aload_n 0 dX10_hanging_17 rfl ?_
    refine ev_getR (r := 281) G10 lay_245 (k := 57) rfl (Nat.le_of_ble_eq_true rfl) dX10_hanging_18 w_1283 ?_
    refine ev_iload_n 2 dX10_hanging_21 rfl ?_
    have hb22 := h.1
    replace h := h.2
    refine ev_iald lay_281 (Nat.le_of_ble_eq_true rfl) hb22 dX10_hanging_22 ?_
    refine ev_iload_n 1 dX10_hanging_23 rfl ?_
    refine ev_iand dX10_hanging_24 ?_
    refine ev_if_eq 34 dX10_hanging_25 (by decide) (fun c9 => ?_) (fun c9 => ?_)
    · replace h := h.1 c9
      refine ev_iconst 0 dX10_hanging_34 (by decide) ?_
      refine ev_ior dX10_hanging_35 ?_
      refine ev_istore_n (lv' := [(2, .int (x2 ||| 0)), (0, .ref 245), (3, .int x3)]) dX10_hanging_36 (Nat.le_of_ble_eq_true rfl) rfl ?_
      refine ev_iinc (lv' := [(3, .int (x3 + 1)), (2, .int (x2 ||| 0)), (0, .ref 245)]) (x3 + 1) 2 dX10_hanging_37 rfl rfl (Nat.le_of_ble_eq_true rfl) rfl ?_
      refine ev_goto 8 dX10_hanging_40 (by decide) ?_
      refine ev_sub [2, 1, 0] rfl ?_
      exact h
    · replace h := h.2 c9
      refine ev_iconst 1 dX10_hanging_28 (by decide) ?_
      refine ev_iload_n 2 dX10_hanging_29 rfl ?_
      refine ev_ishl dX10_hanging_30 ?_
      refine ev_goto 35 dX10_hanging_31 (by decide) ?_
      refine ev_ior dX10_hanging_35 ?_
      refine ev_istore_n (lv' := [(2, .int (x2 ||| (1 <<< (x3 &&& 31)))), (0, .ref 245), (3, .int x3)]) dX10_hanging_36 (Nat.le_of_ble_eq_true rfl) rfl ?_
      refine ev_iinc (lv' := [(3, .int (x3 + 1)), (2, .int (x2 ||| (1 <<< (x3 &&& 31)))), (0, .ref 245)]) (x3 + 1) 2 dX10_hanging_37 rfl rfl (Nat.le_of_ble_eq_true rfl) rfl ?_
      refine ev_goto 8 dX10_hanging_40 (by decide) ?_
      refine ev_sub [2, 1, 0] rfl ?_
      exact h
abbrev KX10_deepOf_2 (N : Nat) (σ : Sg) (Q : Option Value → Sg → Prop) (x1 : Int32) (x2 : Int32) : Prop := Ev N mX10_deepOf 2 [(0, .ref 245), (1, .int x1), (2, .int x2)] [] σ Q
abbrev KX10_deepOf_16 (N : Nat) (σ : Sg) (Q : Option Value → Sg → Prop) (x1 : Int32) (x2 : Int32) (x3 : Int32) : Prop := Ev N mX10_deepOf 16 [(0, .ref 245), (1, .int x1), (2, .int x2), (3, .int x3)] [] σ Q
theorem EX10_deepOf {N : Nat} {σ : Sg} {Q : Option Value → Sg → Prop} {x1 : Int32} (h : KX10_deepOf_2 N σ Q x1 0) : EvM N mX10_deepOf [.ref 245, .int x1] σ Q := by
  refine ev_entry rfl (Nat.le_of_ble_eq_true rfl) (lv := [(0, .ref 245), (1, .int x1)]) rfl ?_
  refine ev_iconst 0 dX10_deepOf_0 (by decide) ?_
  refine ev_istore_n (lv' := [(2, .int 0), (0, .ref 245), (1, .int x1)]) dX10_deepOf_1 (Nat.le_of_ble_eq_true rfl) rfl ?_
  refine ev_sub [1, 2, 0] rfl ?_
  exact h
theorem BX10_deepOf_2 {N : Nat} {σ : Sg} {Q : Option Value → Sg → Prop} {x1 : Int32} {x2 : Int32} (h : (x1 < x2 → vp_in x1 20 ∧ (Q (some (.int (σ.1 282 (x1).toNatClampNeg))) σ)) ∧ (¬ x1 < x2 → vp_in x2 20 ∧ (KX10_deepOf_16 N (u1 σ 282 (x2).toNatClampNeg 0) Q x1 x2 0))) : KX10_deepOf_2 N σ Q x1 x2 := by
  refine ev_iload_n 2 dX10_deepOf_2 rfl ?_
  refine ev_iload_n 1 dX10_deepOf_3 rfl ?_
  refine ev_icmp_gt 87 dX10_deepOf_4 (by decide) (fun c9 => ?_) (fun c9 => ?_)
  · replace h := h.1 c9
    refine ev_aload_n 0 dX10_deepOf_87 rfl ?_
    refine ev_getR (r := 282) G10 lay_245 (k := 59) rfl (Nat.le_of_ble_eq_true rfl) dX10_deepOf_88 w_1285 ?_
    refine ev_iload_n 1 dX10_deepOf_91 rfl ?_
    have hb92 := h.1
    replace h := h.2
    refine ev_iald lay_282 (Nat.le_of_ble_eq_true rfl) hb92 dX10_deepOf_92 ?_
    exact ev_iret rfl dX10_deepOf_93 h
  · replace h := h.2 c9
    refine ev_aload_n 0 dX10_deepOf_7 rfl ?_
    refine ev_getR (r := 282) G10 lay_245 (k := 59) rfl (Nat.le_of_ble_eq_true rfl) dX10_deepOf_8 w_1285 ?_
    refine ev_iload_n 2 dX10_deepOf_11 rfl ?_
    refine ev_iconst 0 dX10_deepOf_12 (by decide) ?_
    have hb13 := h.1
    replace h := h.2
    refine ev_iast lay_282 (Nat.le_of_ble_eq_true rfl) hb13 dX10_deepOf_13 ?_
    refine ev_iconst 0 dX10_deepOf_14 (by decide) ?_
    refine ev_istore_n (lv' := [(3, .int 0), (0, .ref 245), (1, .int x1), (2, .int x2)]) dX10_deepOf_15 (Nat.le_of_ble_eq_true rfl) rfl ?_
    refine ev_sub [1, 2, 3, 0] rfl ?_
    exact h
theorem BX10_deepOf_16 {N : Nat} {σ : Sg} {Q : Option Value → Sg → Prop} {x1 : Int32} {x2 : Int32} {x3 : Int32} (h : (x2 ≤ x3 → KX10_deepOf_2 N σ Q x1 (x2 + 1)) ∧ (¬ x2 ≤ x3 → vp_in x2 20 ∧ (((((σ.1 281 (x2).toNatClampNeg) >>> (x3 &&& 31)) &&& 1) = 1 → vp_in x3 20 ∧ (vp_in x2 20 ∧ ((((σ.1 282 (x3).toNatClampNeg) + 1) ≤ (σ.1 282 (x2).toNatClampNeg) → vp_in x2 20 ∧ (vp_in x2 20 ∧ (KX10_deepOf_16 N (u1 σ 282 (x2).toNatClampNeg (σ.1 282 (x2).toNatClampNeg)) Q x1 x2 (x3 + 1)))) ∧ (¬ ((σ.1 282 (x3).toNatClampNeg) + 1) ≤ (σ.1 282 (x2).toNatClampNeg) → vp_in x3 20 ∧ (vp_in x2 20 ∧ (KX10_deepOf_16 N (u1 σ 282 (x2).toNatClampNeg ((σ.1 282 (x3).toNatClampNeg) + 1)) Q x1 x2 (x3 + 1))))))) ∧ (¬ (((σ.1 281 (x2).toNatClampNeg) >>> (x3 &&& 31)) &&& 1) = 1 → vp_in x2 20 ∧ (vp_in x2 20 ∧ (KX10_deepOf_16 N (u1 σ 282 (x2).toNatClampNeg (σ.1 282 (x2).toNatClampNeg)) Q x1 x2 (x3 + 1))))))) : KX10_deepOf_16 N σ Q x1 x2 x3 := by
  refine ev_iload_n 3 dX10_deepOf_16 rfl ?_
  refine ev_iload_n 2 dX10_deepOf_17 rfl ?_
  refine ev_icmp_ge 81 dX10_deepOf_18 (by decide) (fun c9 => ?_) (fun c9 => ?_)
  · replace h := h.1 c9
    refine ev_iinc (lv' := [(2, .int (x2 + 1)), (0, .ref 245), (1, .int x1), (3, .int x3)]) (x2 + 1) 2 dX10_deepOf_81 rfl rfl (Nat.le_of_ble_eq_true rfl) rfl ?_
    refine ev_goto 2 dX10_deepOf_84 (by decide) ?_
    refine ev_sub [1, 2, 0] rfl ?_
    exact h
  · replace h := h.2 c9
    refine ev_aload_n 0 dX10_deepOf_21 rfl ?_
    refine ev_getR (r := 282) G10 lay_245 (k := 59) rfl (Nat.le_of_ble_eq_true rfl) dX10_deepOf_22 w_1285 ?_
    refine ev_iload_n 2 dX10_deepOf_25 rfl ?_
    refine ev_aload_n 0 dX10_deepOf_26 rfl ?_
    refine ev_getR (r := 281) G10 lay_245 (k := 57) rfl (Nat.le_of_ble_eq_true rfl) dX10_deepOf_27 w_1283 ?_
    refine ev_iload_n 2 dX10_deepOf_30 rfl ?_
    have hb31 := h.1
    replace h := h.2
    refine ev_iald lay_281 (Nat.le_of_ble_eq_true rfl) hb31 dX10_deepOf_31 ?_
    refine ev_iload_n 3 dX10_deepOf_32 rfl ?_
    refine ev_ishr dX10_deepOf_33 ?_
    refine ev_iconst 1 dX10_deepOf_34 (by decide) ?_
    refine ev_iand dX10_deepOf_35 ?_
    refine ev_iconst 1 dX10_deepOf_36 (by decide) ?_
    refine ev_icmp_ne 68 dX10_deepOf_37 (by decide) (fun c9 => ?_) (fun c9 => ?_)
    · replace h := h.2 c9
      refine ev_aload_n 0 dX10_deepOf_68 rfl ?_
      refine ev_getR (r := 282) G10 lay_245 (k := 59) rfl (Nat.le_of_ble_eq_true rfl) dX10_deepOf_69 w_1285 ?_
      refine ev_iload_n 2 dX10_deepOf_72 rfl ?_
      have hb73 := h.1
      replace h := h.2
      refine ev_iald lay_282 (Nat.le_of_ble_eq_true rfl) hb73 dX10_deepOf_73 ?_
      have hb74 := h.1
      replace h := h.2
      refine ev_iast lay_282 (Nat.le_of_ble_eq_true rfl) hb74 dX10_deepOf_74 ?_
      refine ev_iinc (lv' := [(3, .int (x3 + 1)), (0, .ref 245), (1, .int x1), (2, .int x2)]) (x3 + 1) 3 dX10_deepOf_75 rfl rfl (Nat.le_of_ble_eq_true rfl) rfl ?_
      refine ev_goto 16 dX10_deepOf_78 (by decide) ?_
      refine ev_sub [1, 2, 3, 0] rfl ?_
      exact h
    · replace h := h.1 c9
      refine ev_aload_n 0 dX10_deepOf_40 rfl ?_
      refine ev_getR (r := 282) G10 lay_245 (k := 59) rfl (Nat.le_of_ble_eq_true rfl) dX10_deepOf_41 w_1285 ?_
      refine ev_iload_n 3 dX10_deepOf_44 rfl ?_
      have hb45 := h.1
      replace h := h.2
      refine ev_iald lay_282 (Nat.le_of_ble_eq_true rfl) hb45 dX10_deepOf_45 ?_
      refine ev_iconst 1 dX10_deepOf_46 (by decide) ?_
      refine ev_iadd dX10_deepOf_47 ?_
      refine ev_aload_n 0 dX10_deepOf_48 rfl ?_
      refine ev_getR (r := 282) G10 lay_245 (k := 59) rfl (Nat.le_of_ble_eq_true rfl) dX10_deepOf_49 w_1285 ?_
      refine ev_iload_n 2 dX10_deepOf_52 rfl ?_
      have hb53 := h.1
      replace h := h.2
      refine ev_iald lay_282 (Nat.le_of_ble_eq_true rfl) hb53 dX10_deepOf_53 ?_
      refine ev_icmp_le 68 dX10_deepOf_54 (by decide) (fun c9 => ?_) (fun c9 => ?_)
      · replace h := h.1 c9
        refine ev_aload_n 0 dX10_deepOf_68 rfl ?_
        refine ev_getR (r := 282) G10 lay_245 (k := 59) rfl (Nat.le_of_ble_eq_true rfl) dX10_deepOf_69 w_1285 ?_
        refine ev_iload_n 2 dX10_deepOf_72 rfl ?_
        have hb73 := h.1
        replace h := h.2
        refine ev_iald lay_282 (Nat.le_of_ble_eq_true rfl) hb73 dX10_deepOf_73 ?_
        have hb74 := h.1
        replace h := h.2
        refine ev_iast lay_282 (Nat.le_of_ble_eq_true rfl) hb74 dX10_deepOf_74 ?_
        refine ev_iinc (lv' := [(3, .int (x3 + 1)), (0, .ref 245), (1, .int x1), (2, .int x2)]) (x3 + 1) 3 dX10_deepOf_75 rfl rfl (Nat.le_of_ble_eq_true rfl) rfl ?_
        refine ev_goto 16 dX10_deepOf_78 (by decide) ?_
        refine ev_sub [1, 2, 3, 0] rfl ?_
        exact h
      · replace h := h.2 c9
        refine ev_aload_n 0 dX10_deepOf_57 rfl ?_
        refine ev_getR (r := 282) G10 lay_245 (k := 59) rfl (Nat.le_of_ble_eq_true rfl) dX10_deepOf_58 w_1285 ?_
        refine ev_iload_n 3 dX10_deepOf_61 rfl ?_
        have hb62 := h.1
        replace h := h.2
        refine ev_iald lay_282 (Nat.le_of_ble_eq_true rfl) hb62 dX10_deepOf_62 ?_
        refine ev_iconst 1 dX10_deepOf_63 (by decide) ?_
        refine ev_iadd dX10_deepOf_64 ?_
        refine ev_goto 74 dX10_deepOf_65 (by decide) ?_
        have hb74 := h.1
        replace h := h.2
        refine ev_iast lay_282 (Nat.le_of_ble_eq_true rfl) hb74 dX10_deepOf_74 ?_
        refine ev_iinc (lv' := [(3, .int (x3 + 1)), (0, .ref 245), (1, .int x1), (2, .int x2)]) (x3 + 1) 3 dX10_deepOf_75 rfl rfl (Nat.le_of_ble_eq_true rfl) rfl ?_
        refine ev_goto 16 dX10_deepOf_78 (by decide) ?_
        refine ev_sub [1, 2, 3, 0] rfl ?_
        exact h
abbrev KX10_claim_112 (N : Nat) (σ : Sg) (Q : Option Value → Sg → Prop) (x3 : Int32) (x4 : Int32) (x5 : Int32) : Prop := Ev (N + 2) mX10_claim 112 [(0, .ref 245), (3, .int x3), (4, .int x4), (5, .int x5)] [] σ Q
theorem EX10_claim {N : Nat} {σ : Sg} {Q : Option Value → Sg → Prop} {x1 : Int32} {x2 : Int32} (h : EvM (N + 1) mX10_isClaim [.ref 245, .int x1] σ (fun r9 σ1 => ∃ v1, r9 = some (.int v1) ∧ ((v1 = 0 → Q (some (.int (-1))) σ1) ∧ (¬ v1 = 0 → ((0 ≤ ((x2).toInt64).toInt ∧ ((x2).toInt64).toInt ≤ 6) → (x2 = 0 → vp_in x1 20 ∧ (Q (some (.int (σ1.1 277 (x1).toNatClampNeg))) σ1)) ∧ (x2 = 1 → vp_in x1 20 ∧ (Q (some (.int (σ1.1 278 (x1).toNatClampNeg))) σ1)) ∧ (x2 = 2 → vp_in x1 20 ∧ (Q (some (.int (σ1.1 279 (x1).toNatClampNeg))) σ1)) ∧ (x2 = 3 → vp_in x1 20 ∧ (Q (some (.int (σ1.1 280 (x1).toNatClampNeg))) σ1)) ∧ (x2 = 4 → vp_in x1 20 ∧ (EvM (N + 1) mX10_bits [.int (σ1.1 281 (x1).toNatClampNeg)] σ1 (fun r9 σ2 => ∃ v2, r9 = some (.int v2) ∧ (Q (some (.int v2)) σ2)))) ∧ (x2 = 5 → EvM (N + 1) mX10_hanging [.ref 245, .int x1] σ1 (fun r9 σ3 => ∃ v3, r9 = some (.int v3) ∧ (KX10_claim_112 N σ3 Q v3 0 (x1 + 1)))) ∧ (¬ x2 = 0 → ¬ x2 = 1 → ¬ x2 = 2 → ¬ x2 = 3 → ¬ x2 = 4 → ¬ x2 = 5 → EvM (N + 1) mX10_deepOf [.ref 245, .int x1] σ1 (fun r9 σ4 => ∃ v4, r9 = some (.int v4) ∧ (Q (some (.int v4)) σ4)))) ∧ (¬ (0 ≤ ((x2).toInt64).toInt ∧ ((x2).toInt64).toInt ≤ 6) → Q (some (.int (-1))) σ1))))) : EvM (N + 2) mX10_claim [.ref 245, .int x1, .int x2] σ Q := by
  refine ev_entry rfl (Nat.le_of_ble_eq_true rfl) (lv := [(0, .ref 245), (1, .int x1), (2, .int x2)]) rfl ?_
  refine ev_aload_n 0 dX10_claim_0 rfl ?_
  refine ev_iload_n 1 dX10_claim_1 rfl ?_
  refine ev_callV (M' := mX10_isClaim) [.int x1] vX10_isClaim G10 lay_245 dX10_claim_2 w_1722 rfl rfl (Nat.le_of_ble_eq_true rfl) h ?_
  rintro r9 σ1 ⟨v1, rfl, h⟩
  refine ev_if_eq 20 dX10_claim_5 (by decide) (fun c9 => ?_) (fun c9 => ?_)
  · replace h := h.1 c9
    refine ev_iconst (-1) dX10_claim_20 (by decide) ?_
    exact ev_iret rfl dX10_claim_21 h
  · replace h := h.2 c9
    refine ev_iload_n 2 dX10_claim_8 rfl ?_
    refine ev_i2l dX10_claim_9 ?_
    refine ev_lconst 0 dX10_claim_10 (by decide) ?_
    refine ev_ldc2 6 dX10_claim_11 w_1620 ?_
    refine ev_callS (M' := mX10_in) [.long ((x2).toInt64), .long 0, .long 6] vX10_in dX10_claim_14 w_1421 rfl rfl (Nat.le_of_ble_eq_true rfl) (C10_in (P := 0 ≤ ((x2).toInt64).toInt ∧ ((x2).toInt64).toInt ≤ 6) (by (try simp only [i_l]); exact Iff.rfl) (Q := fun r9 s9 => σ1 = s9 ∧ ((r9 = some (.int 1) ∧ (0 ≤ ((x2).toInt64).toInt ∧ ((x2).toInt64).toInt ≤ 6)) ∨ (r9 = some (.int 0) ∧ ¬ (0 ≤ ((x2).toInt64).toInt ∧ ((x2).toInt64).toInt ≤ 6)))) ⟨fun c9 => ⟨rfl, Or.inl ⟨rfl, c9⟩⟩, fun c9 => ⟨rfl, Or.inr ⟨rfl, c9⟩⟩⟩) ?_
    rintro r9 s9 ⟨rfl, ⟨rfl, c9⟩ | ⟨rfl, c9⟩⟩
    · replace h := h.1 c9
      refine ev_if_ne 22 dX10_claim_17 (by decide) (fun c9 => ?_) (fun c9 => ?_)
      · refine ev_iload_n 2 dX10_claim_22 rfl ?_
        by_cases c0 : x2 = 0
        · replace h := h.1 c0
          refine ev_tableIn (off := (37)) 0 60 dX10_claim_23 c0 (by decide) (by decide) rfl (by decide) ?_
          refine ev_aload_n 0 dX10_claim_60 rfl ?_
          refine ev_getR (r := 277) G10 lay_245 (k := 53) rfl (Nat.le_of_ble_eq_true rfl) dX10_claim_61 w_1279 ?_
          refine ev_iload_n 1 dX10_claim_64 rfl ?_
          have hb65 := h.1
          replace h := h.2
          refine ev_iald lay_277 (Nat.le_of_ble_eq_true rfl) hb65 dX10_claim_65 ?_
          exact ev_iret rfl dX10_claim_66 h
        by_cases c1 : x2 = 1
        · replace h := h.2.1 c1
          refine ev_tableIn (off := (44)) 1 67 dX10_claim_23 c1 (by decide) (by decide) rfl (by decide) ?_
          refine ev_aload_n 0 dX10_claim_67 rfl ?_
          refine ev_getR (r := 278) G10 lay_245 (k := 54) rfl (Nat.le_of_ble_eq_true rfl) dX10_claim_68 w_1280 ?_
          refine ev_iload_n 1 dX10_claim_71 rfl ?_
          have hb72 := h.1
          replace h := h.2
          refine ev_iald lay_278 (Nat.le_of_ble_eq_true rfl) hb72 dX10_claim_72 ?_
          exact ev_iret rfl dX10_claim_73 h
        by_cases c2 : x2 = 2
        · replace h := h.2.2.1 c2
          refine ev_tableIn (off := (51)) 2 74 dX10_claim_23 c2 (by decide) (by decide) rfl (by decide) ?_
          refine ev_aload_n 0 dX10_claim_74 rfl ?_
          refine ev_getR (r := 279) G10 lay_245 (k := 55) rfl (Nat.le_of_ble_eq_true rfl) dX10_claim_75 w_1281 ?_
          refine ev_iload_n 1 dX10_claim_78 rfl ?_
          have hb79 := h.1
          replace h := h.2
          refine ev_iald lay_279 (Nat.le_of_ble_eq_true rfl) hb79 dX10_claim_79 ?_
          exact ev_iret rfl dX10_claim_80 h
        by_cases c3 : x2 = 3
        · replace h := h.2.2.2.1 c3
          refine ev_tableIn (off := (58)) 3 81 dX10_claim_23 c3 (by decide) (by decide) rfl (by decide) ?_
          refine ev_aload_n 0 dX10_claim_81 rfl ?_
          refine ev_getR (r := 280) G10 lay_245 (k := 56) rfl (Nat.le_of_ble_eq_true rfl) dX10_claim_82 w_1282 ?_
          refine ev_iload_n 1 dX10_claim_85 rfl ?_
          have hb86 := h.1
          replace h := h.2
          refine ev_iald lay_280 (Nat.le_of_ble_eq_true rfl) hb86 dX10_claim_86 ?_
          exact ev_iret rfl dX10_claim_87 h
        by_cases c4 : x2 = 4
        · replace h := h.2.2.2.2.1 c4
          refine ev_tableIn (off := (65)) 4 88 dX10_claim_23 c4 (by decide) (by decide) rfl (by decide) ?_
          refine ev_aload_n 0 dX10_claim_88 rfl ?_
          refine ev_getR (r := 281) G10 lay_245 (k := 57) rfl (Nat.le_of_ble_eq_true rfl) dX10_claim_89 w_1283 ?_
          refine ev_iload_n 1 dX10_claim_92 rfl ?_
          have hb93 := h.1
          replace h := h.2
          refine ev_iald lay_281 (Nat.le_of_ble_eq_true rfl) hb93 dX10_claim_93 ?_
          refine ev_callS (M' := mX10_bits) [.int (σ1.1 281 (x1).toNatClampNeg)] vX10_bits dX10_claim_94 w_1437 rfl rfl (Nat.le_of_ble_eq_true rfl) h ?_
          rintro r9 σ2 ⟨v2, rfl, h⟩
          exact ev_iret rfl dX10_claim_97 h
        by_cases c5 : x2 = 5
        · replace h := h.2.2.2.2.2.1 c5
          refine ev_tableIn (off := (75)) 5 98 dX10_claim_23 c5 (by decide) (by decide) rfl (by decide) ?_
          refine ev_aload_n 0 dX10_claim_98 rfl ?_
          refine ev_iload_n 1 dX10_claim_99 rfl ?_
          refine ev_callV (M' := mX10_hanging) [.int x1] vX10_hanging G10 lay_245 dX10_claim_100 w_1726 rfl rfl (Nat.le_of_ble_eq_true rfl) h ?_
          rintro r9 σ3 ⟨v3, rfl, h⟩
          refine ev_istore_n (lv' := [(3, .int v3), (0, .ref 245), (1, .int x1), (2, .int x2)]) dX10_claim_103 (Nat.le_of_ble_eq_true rfl) rfl ?_
          refine ev_iconst 0 dX10_claim_104 (by decide) ?_
          refine ev_istore (lv' := [(4, .int 0), (3, .int v3), (0, .ref 245), (1, .int x1), (2, .int x2)]) dX10_claim_105 (Nat.le_of_ble_eq_true rfl) rfl ?_
          refine ev_iload_n 3 dX10_claim_107 rfl ?_
          refine ev_iconst 1 dX10_claim_108 (by decide) ?_
          refine ev_iadd dX10_claim_109 ?_
          refine ev_istore (lv' := [(5, .int (x1 + 1)), (4, .int 0), (3, .int v3), (0, .ref 245), (1, .int x1), (2, .int x2)]) dX10_claim_110 (Nat.le_of_ble_eq_true rfl) rfl ?_
          refine ev_sub [3, 2, 1, 0] rfl ?_
          exact h
        replace h := h.2.2.2.2.2.2 c0 c1 c2 c3 c4 c5
        refine ev_tableOut 162 dX10_claim_23 ?_ (by decide) ?_
        · have hn : ∀ k : Int32, ¬ x2 = k → ¬ (x2).toInt = k.toInt := fun k q e => q (Int32.toInt_inj.mp e)
          have e0 := hn _ c0
          have e1 := hn _ c1
          have e2 := hn _ c2
          have e3 := hn _ c3
          have e4 := hn _ c4
          have e5 := hn _ c5
          rw [show (0 : Int32).toInt = 0 from by decide] at e0; rw [show (1 : Int32).toInt = 1 from by decide] at e1; rw [show (2 : Int32).toInt = 2 from by decide] at e2; rw [show (3 : Int32).toInt = 3 from by decide] at e3; rw [show (4 : Int32).toInt = 4 from by decide] at e4; rw [show (5 : Int32).toInt = 5 from by decide] at e5
          omega
        · refine ev_aload_n 0 dX10_claim_162 rfl ?_
          refine ev_iload_n 1 dX10_claim_163 rfl ?_
          refine ev_callV (M' := mX10_deepOf) [.int x1] vX10_deepOf G10 lay_245 dX10_claim_164 w_1730 rfl rfl (Nat.le_of_ble_eq_true rfl) h ?_
          rintro r9 σ4 ⟨v4, rfl, h⟩
          exact ev_iret rfl dX10_claim_167 h
      · exact absurd c9 (by decide)
    · replace h := h.2 c9
      refine ev_if_ne 22 dX10_claim_17 (by decide) (fun c9 => ?_) (fun c9 => ?_)
      · exact absurd c9 (by decide)
      · refine ev_iconst (-1) dX10_claim_20 (by decide) ?_
        exact ev_iret rfl dX10_claim_21 h
theorem BX10_claim_112 {N : Nat} {σ : Sg} {Q : Option Value → Sg → Prop} {x3 : Int32} {x4 : Int32} {x5 : Int32} (h : ((σ.1 245 52) ≤ x5 → Q (some (.int x4)) σ) ∧ (¬ (σ.1 245 52) ≤ x5 → (((x3 >>> (x5 &&& 31)) &&& 1) = 1 → vp_in x5 20 ∧ (((σ.1 280 (x5).toNatClampNeg) = (-4) → KX10_claim_112 N σ Q x3 (x4 + 1) (x5 + 1)) ∧ (¬ (σ.1 280 (x5).toNatClampNeg) = (-4) → KX10_claim_112 N σ Q x3 (x4 + 0) (x5 + 1)))) ∧ (¬ ((x3 >>> (x5 &&& 31)) &&& 1) = 1 → KX10_claim_112 N σ Q x3 (x4 + 0) (x5 + 1)))) : KX10_claim_112 N σ Q x3 x4 x5 := by
  refine ev_iload 3 dX10_claim_112 rfl ?_
  refine ev_aload_n 0 dX10_claim_114 rfl ?_
  refine ev_get G10 lay_245 (k := 52) rfl (Nat.le_of_ble_eq_true rfl) dX10_claim_115 w_1278 ?_
  refine ev_icmp_ge 159 dX10_claim_118 (by decide) (fun c9 => ?_) (fun c9 => ?_)
  · replace h := h.1 c9
    refine ev_iload 2 dX10_claim_159 rfl ?_
    exact ev_iret rfl dX10_claim_161 h
  · replace h := h.2 c9
    refine ev_iload 2 dX10_claim_121 rfl ?_
    refine ev_iload_n 1 dX10_claim_123 rfl ?_
    refine ev_iload 3 dX10_claim_124 rfl ?_
    refine ev_ishr dX10_claim_126 ?_
    refine ev_iconst 1 dX10_claim_127 (by decide) ?_
    refine ev_iand dX10_claim_128 ?_
    refine ev_iconst 1 dX10_claim_129 (by decide) ?_
    refine ev_icmp_ne 149 dX10_claim_130 (by decide) (fun c9 => ?_) (fun c9 => ?_)
    · replace h := h.2 c9
      refine ev_iconst 0 dX10_claim_149 (by decide) ?_
      refine ev_iadd dX10_claim_150 ?_
      refine ev_istore (lv' := [(4, .int (x4 + 0)), (0, .ref 245), (3, .int x3), (5, .int x5)]) dX10_claim_151 (Nat.le_of_ble_eq_true rfl) rfl ?_
      refine ev_iinc (lv' := [(5, .int (x5 + 1)), (4, .int (x4 + 0)), (0, .ref 245), (3, .int x3)]) (x5 + 1) 3 dX10_claim_153 rfl rfl (Nat.le_of_ble_eq_true rfl) rfl ?_
      refine ev_goto 112 dX10_claim_156 (by decide) ?_
      refine ev_sub [2, 3, 1, 0] rfl ?_
      exact h
    · replace h := h.1 c9
      refine ev_aload_n 0 dX10_claim_133 rfl ?_
      refine ev_getR (r := 280) G10 lay_245 (k := 56) rfl (Nat.le_of_ble_eq_true rfl) dX10_claim_134 w_1282 ?_
      refine ev_iload 3 dX10_claim_137 rfl ?_
      have hb139 := h.1
      replace h := h.2
      refine ev_iald lay_280 (Nat.le_of_ble_eq_true rfl) hb139 dX10_claim_139 ?_
      refine ev_bipush (-4) dX10_claim_140 (by decide) ?_
      refine ev_icmp_ne 149 dX10_claim_142 (by decide) (fun c9 => ?_) (fun c9 => ?_)
      · replace h := h.2 c9
        refine ev_iconst 0 dX10_claim_149 (by decide) ?_
        refine ev_iadd dX10_claim_150 ?_
        refine ev_istore (lv' := [(4, .int (x4 + 0)), (0, .ref 245), (3, .int x3), (5, .int x5)]) dX10_claim_151 (Nat.le_of_ble_eq_true rfl) rfl ?_
        refine ev_iinc (lv' := [(5, .int (x5 + 1)), (4, .int (x4 + 0)), (0, .ref 245), (3, .int x3)]) (x5 + 1) 3 dX10_claim_153 rfl rfl (Nat.le_of_ble_eq_true rfl) rfl ?_
        refine ev_goto 112 dX10_claim_156 (by decide) ?_
        refine ev_sub [2, 3, 1, 0] rfl ?_
        exact h
      · replace h := h.1 c9
        refine ev_iconst 1 dX10_claim_145 (by decide) ?_
        refine ev_goto 150 dX10_claim_146 (by decide) ?_
        refine ev_iadd dX10_claim_150 ?_
        refine ev_istore (lv' := [(4, .int (x4 + 1)), (0, .ref 245), (3, .int x3), (5, .int x5)]) dX10_claim_151 (Nat.le_of_ble_eq_true rfl) rfl ?_
        refine ev_iinc (lv' := [(5, .int (x5 + 1)), (4, .int (x4 + 1)), (0, .ref 245), (3, .int x3)]) (x5 + 1) 3 dX10_claim_153 rfl rfl (Nat.le_of_ble_eq_true rfl) rfl ?_
        refine ev_goto 112 dX10_claim_156 (by decide) ?_
        refine ev_sub [2, 3, 1, 0] rfl ?_
        exact h
abbrev KX10_withdraw_35 (N : Nat) (σ : Sg) (Q : Option Value → Sg → Prop) (x2 : Int32) (x3 : Int32) (x4 : Int32) : Prop := Ev (N + 2) mX10_withdraw 35 [(0, .ref 245), (2, .int x2), (3, .int x3), (4, .int x4)] [] σ Q
theorem EX10_withdraw {N : Nat} {σ : Sg} {Q : Option Value → Sg → Prop} {x1 : Int32} (h : EvM (N + 1) mX10_isClaim [.ref 245, .int x1] σ (fun r9 σ1 => ∃ v1, r9 = some (.int v1) ∧ ((v1 = 0 → Q (some (.int (-1))) σ1) ∧ (¬ v1 = 0 → vp_in x1 20 ∧ (((σ1.1 280 (x1).toNatClampNeg) = (-4) → EvM (N + 1) mX10_hanging [.ref 245, .int x1] σ1 (fun r9 σ2 => ∃ v2, r9 = some (.int v2) ∧ (KX10_withdraw_35 N σ2 Q v2 0 0))) ∧ (¬ (σ1.1 280 (x1).toNatClampNeg) = (-4) → Q (some (.int (-2))) σ1)))))) : EvM (N + 2) mX10_withdraw [.ref 245, .int x1] σ Q := by
  refine ev_entry rfl (Nat.le_of_ble_eq_true rfl) (lv := [(0, .ref 245), (1, .int x1)]) rfl ?_
  refine ev_aload_n 0 dX10_withdraw_0 rfl ?_
  refine ev_iload_n 1 dX10_withdraw_1 rfl ?_
  refine ev_callV (M' := mX10_isClaim) [.int x1] vX10_isClaim G10 lay_245 dX10_withdraw_2 w_1722 rfl rfl (Nat.le_of_ble_eq_true rfl) h ?_
  rintro r9 σ1 ⟨v1, rfl, h⟩
  refine ev_if_ne 10 dX10_withdraw_5 (by decide) (fun c9 => ?_) (fun c9 => ?_)
  · replace h := h.2 c9
    refine ev_aload_n 0 dX10_withdraw_10 rfl ?_
    refine ev_getR (r := 280) G10 lay_245 (k := 56) rfl (Nat.le_of_ble_eq_true rfl) dX10_withdraw_11 w_1282 ?_
    refine ev_iload_n 1 dX10_withdraw_14 rfl ?_
    have hb15 := h.1
    replace h := h.2
    refine ev_iald lay_280 (Nat.le_of_ble_eq_true rfl) hb15 dX10_withdraw_15 ?_
    refine ev_bipush (-4) dX10_withdraw_16 (by decide) ?_
    refine ev_icmp_eq 24 dX10_withdraw_18 (by decide) (fun c9 => ?_) (fun c9 => ?_)
    · replace h := h.1 c9
      refine ev_aload_n 0 dX10_withdraw_24 rfl ?_
      refine ev_iload_n 1 dX10_withdraw_25 rfl ?_
      refine ev_callV (M' := mX10_hanging) [.int x1] vX10_hanging G10 lay_245 dX10_withdraw_26 w_1726 rfl rfl (Nat.le_of_ble_eq_true rfl) h ?_
      rintro r9 σ2 ⟨v2, rfl, h⟩
      refine ev_istore_n (lv' := [(2, .int v2), (0, .ref 245), (1, .int x1)]) dX10_withdraw_29 (Nat.le_of_ble_eq_true rfl) rfl ?_
      refine ev_iconst 0 dX10_withdraw_30 (by decide) ?_
      refine ev_istore_n (lv' := [(3, .int 0), (2, .int v2), (0, .ref 245), (1, .int x1)]) dX10_withdraw_31 (Nat.le_of_ble_eq_true rfl) rfl ?_
      refine ev_iconst 0 dX10_withdraw_32 (by decide) ?_
      refine ev_istore (lv' := [(4, .int 0), (3, .int 0), (2, .int v2), (0, .ref 245), (1, .int x1)]) dX10_withdraw_33 (Nat.le_of_ble_eq_true rfl) rfl ?_
      refine ev_sub [3, 2, 1, 0] rfl ?_
      exact h
    · replace h := h.2 c9
      refine ev_bipush (-2) dX10_withdraw_21 (by decide) ?_
      exact ev_iret rfl dX10_withdraw_23 h
  · replace h := h.1 c9
    refine ev_iconst (-1) dX10_withdraw_8 (by decide) ?_
    exact ev_iret rfl dX10_withdraw_9 h
theorem BX10_withdraw_35 {N : Nat} {σ : Sg} {Q : Option Value → Sg → Prop} {x2 : Int32} {x3 : Int32} {x4 : Int32} (h : ((σ.1 245 52) ≤ x4 → Q (some (.int x3)) σ) ∧ (¬ (σ.1 245 52) ≤ x4 → (((x2 >>> (x4 &&& 31)) &&& 1) = 1 → vp_in x4 20 ∧ (((σ.1 280 (x4).toNatClampNeg) = (-4) → vp_in x4 20 ∧ (KX10_withdraw_35 N (u1 σ 280 (x4).toNatClampNeg (σ.1 245 58)) Q x2 (x3 + 1) (x4 + 1))) ∧ (¬ (σ.1 280 (x4).toNatClampNeg) = (-4) → KX10_withdraw_35 N σ Q x2 x3 (x4 + 1)))) ∧ (¬ ((x2 >>> (x4 &&& 31)) &&& 1) = 1 → KX10_withdraw_35 N σ Q x2 x3 (x4 + 1)))) : KX10_withdraw_35 N σ Q x2 x3 x4 := by
  refine ev_iload 3 dX10_withdraw_35 rfl ?_
  refine ev_aload_n 0 dX10_withdraw_37 rfl ?_
  refine ev_get G10 lay_245 (k := 52) rfl (Nat.le_of_ble_eq_true rfl) dX10_withdraw_38 w_1278 ?_
  refine ev_icmp_ge 86 dX10_withdraw_41 (by decide) (fun c9 => ?_) (fun c9 => ?_)
  · replace h := h.1 c9
    refine ev_iload_n 2 dX10_withdraw_86 rfl ?_
    exact ev_iret rfl dX10_withdraw_87 h
  · replace h := h.2 c9
    refine ev_iload_n 1 dX10_withdraw_44 rfl ?_
    refine ev_iload 3 dX10_withdraw_45 rfl ?_
    refine ev_ishr dX10_withdraw_47 ?_
    refine ev_iconst 1 dX10_withdraw_48 (by decide) ?_
    refine ev_iand dX10_withdraw_49 ?_
    refine ev_iconst 1 dX10_withdraw_50 (by decide) ?_
    refine ev_icmp_ne 80 dX10_withdraw_51 (by decide) (fun c9 => ?_) (fun c9 => ?_)
    · replace h := h.2 c9
      refine ev_iinc (lv' := [(4, .int (x4 + 1)), (0, .ref 245), (2, .int x2), (3, .int x3)]) (x4 + 1) 3 dX10_withdraw_80 rfl rfl (Nat.le_of_ble_eq_true rfl) rfl ?_
      refine ev_goto 35 dX10_withdraw_83 (by decide) ?_
      refine ev_sub [1, 2, 3, 0] rfl ?_
      exact h
    · replace h := h.1 c9
      refine ev_aload_n 0 dX10_withdraw_54 rfl ?_
      refine ev_getR (r := 280) G10 lay_245 (k := 56) rfl (Nat.le_of_ble_eq_true rfl) dX10_withdraw_55 w_1282 ?_
      refine ev_iload 3 dX10_withdraw_58 rfl ?_
      have hb60 := h.1
      replace h := h.2
      refine ev_iald lay_280 (Nat.le_of_ble_eq_true rfl) hb60 dX10_withdraw_60 ?_
      refine ev_bipush (-4) dX10_withdraw_61 (by decide) ?_
      refine ev_icmp_ne 80 dX10_withdraw_63 (by decide) (fun c9 => ?_) (fun c9 => ?_)
      · replace h := h.2 c9
        refine ev_iinc (lv' := [(4, .int (x4 + 1)), (0, .ref 245), (2, .int x2), (3, .int x3)]) (x4 + 1) 3 dX10_withdraw_80 rfl rfl (Nat.le_of_ble_eq_true rfl) rfl ?_
        refine ev_goto 35 dX10_withdraw_83 (by decide) ?_
        refine ev_sub [1, 2, 3, 0] rfl ?_
        exact h
      · replace h := h.1 c9
        refine ev_aload_n 0 dX10_withdraw_66 rfl ?_
        refine ev_getR (r := 280) G10 lay_245 (k := 56) rfl (Nat.le_of_ble_eq_true rfl) dX10_withdraw_67 w_1282 ?_
        refine ev_iload 3 dX10_withdraw_70 rfl ?_
        refine ev_aload_n 0 dX10_withdraw_72 rfl ?_
        refine ev_get G10 lay_245 (k := 58) rfl (Nat.le_of_ble_eq_true rfl) dX10_withdraw_73 w_1284 ?_
        have hb76 := h.1
        replace h := h.2
        refine ev_iast lay_280 (Nat.le_of_ble_eq_true rfl) hb76 dX10_withdraw_76 ?_
        refine ev_iinc (lv' := [(3, .int (x3 + 1)), (0, .ref 245), (2, .int x2), (4, .int x4)]) (x3 + 1) 2 dX10_withdraw_77 rfl rfl (Nat.le_of_ble_eq_true rfl) rfl ?_
        refine ev_iinc (lv' := [(4, .int (x4 + 1)), (3, .int (x3 + 1)), (0, .ref 245), (2, .int x2)]) (x4 + 1) 3 dX10_withdraw_80 rfl rfl (Nat.le_of_ble_eq_true rfl) rfl ?_
        refine ev_goto 35 dX10_withdraw_83 (by decide) ?_
        refine ev_sub [2, 3, 1, 0] rfl ?_
        exact h
theorem EX10_day {N : Nat} {σ : Sg} {Q : Option Value → Sg → Prop} {x1 : Int32} (h : ((((σ.1 245 58).toInt64).toInt ≤ ((x1).toInt64).toInt ∧ ((x1).toInt64).toInt ≤ 99) → Q (some (.int (σ.1 245 58))) (u1 σ 245 58 x1)) ∧ (¬ (((σ.1 245 58).toInt64).toInt ≤ ((x1).toInt64).toInt ∧ ((x1).toInt64).toInt ≤ 99) → Q (some (.int (-1))) σ)) : EvM (N + 1) mX10_day [.ref 245, .int x1] σ Q := by
  refine ev_entry rfl (Nat.le_of_ble_eq_true rfl) (lv := [(0, .ref 245), (1, .int x1)]) rfl ?_
  refine ev_iload_n 1 dX10_day_0 rfl ?_
  refine ev_i2l dX10_day_1 ?_
  refine ev_aload_n 0 dX10_day_2 rfl ?_
  refine ev_get G10 lay_245 (k := 58) rfl (Nat.le_of_ble_eq_true rfl) dX10_day_3 w_1284 ?_
  refine ev_i2l dX10_day_6 ?_
  refine ev_ldc2 99 dX10_day_7 w_1742 ?_
  refine ev_callS (M' := mX10_in) [.long ((x1).toInt64), .long ((σ.1 245 58).toInt64), .long 99] vX10_in dX10_day_10 w_1421 rfl rfl (Nat.le_of_ble_eq_true rfl) (C10_in (P := ((σ.1 245 58).toInt64).toInt ≤ ((x1).toInt64).toInt ∧ ((x1).toInt64).toInt ≤ 99) (by (try simp only [i_l]); exact Iff.rfl) (Q := fun r9 s9 => σ = s9 ∧ ((r9 = some (.int 1) ∧ (((σ.1 245 58).toInt64).toInt ≤ ((x1).toInt64).toInt ∧ ((x1).toInt64).toInt ≤ 99)) ∨ (r9 = some (.int 0) ∧ ¬ (((σ.1 245 58).toInt64).toInt ≤ ((x1).toInt64).toInt ∧ ((x1).toInt64).toInt ≤ 99)))) ⟨fun c9 => ⟨rfl, Or.inl ⟨rfl, c9⟩⟩, fun c9 => ⟨rfl, Or.inr ⟨rfl, c9⟩⟩⟩) ?_
  rintro r9 s9 ⟨rfl, ⟨rfl, c9⟩ | ⟨rfl, c9⟩⟩
  · replace h := h.1 c9
    refine ev_if_ne 18 dX10_day_13 (by decide) (fun c9 => ?_) (fun c9 => ?_)
    · refine ev_aload_n 0 dX10_day_18 rfl ?_
      refine ev_get G10 lay_245 (k := 58) rfl (Nat.le_of_ble_eq_true rfl) dX10_day_19 w_1284 ?_
      refine ev_istore_n (lv' := [(2, .int (σ.1 245 58)), (0, .ref 245), (1, .int x1)]) dX10_day_22 (Nat.le_of_ble_eq_true rfl) rfl ?_
      refine ev_aload_n 1 dX10_day_23 rfl ?_
      refine ev_iload_n 2 dX10_day_24 rfl ?_
      refine ev_put G10 lay_245 (k := 58) rfl (Nat.le_of_ble_eq_true rfl) rfl (by decide +kernel) dX10_day_25 w_1284 ?_
      refine ev_iload_n 0 dX10_day_28 rfl ?_
      exact ev_iret rfl dX10_day_29 h
    · exact absurd c9 (by decide)
  · replace h := h.2 c9
    refine ev_if_ne 18 dX10_day_13 (by decide) (fun c9 => ?_) (fun c9 => ?_)
    · exact absurd c9 (by decide)
    · refine ev_iconst (-1) dX10_day_16 (by decide) ?_
      exact ev_iret rfl dX10_day_17 h
abbrev KX10_known_39 (N : Nat) (σ : Sg) (Q : Option Value → Sg → Prop) (x1 : Int32) (x2 : Int32) (x3 : Int32) (x4 : Int32) (x5 : Int32) (x6 : Int32) : Prop := Ev (N + 1) mX10_known 39 [(0, .ref 245), (1, .int x1), (2, .int x2), (3, .int x3), (4, .int x4), (5, .int x5), (6, .int x6)] [] σ Q
theorem EX10_known {N : Nat} {σ : Sg} {Q : Option Value → Sg → Prop} {x1 : Int32} {x2 : Int32} (h : ((0 ≤ ((x1).toInt64).toInt ∧ ((x1).toInt64).toInt ≤ 99) → ((0 ≤ ((x2).toInt64).toInt ∧ ((x2).toInt64).toInt ≤ 2) → KX10_known_39 N σ Q x1 x2 0 (-4) (-4) 0) ∧ (¬ (0 ≤ ((x2).toInt64).toInt ∧ ((x2).toInt64).toInt ≤ 2) → Q (some (.int (-1))) σ)) ∧ (¬ (0 ≤ ((x1).toInt64).toInt ∧ ((x1).toInt64).toInt ≤ 99) → Q (some (.int (-1))) σ)) : EvM (N + 1) mX10_known [.ref 245, .int x1, .int x2] σ Q := by
  refine ev_entry rfl (Nat.le_of_ble_eq_true rfl) (lv := [(0, .ref 245), (1, .int x1), (2, .int x2)]) rfl ?_
  refine ev_iload_n 1 dX10_known_0 rfl ?_
  refine ev_i2l dX10_known_1 ?_
  refine ev_lconst 0 dX10_known_2 (by decide) ?_
  refine ev_ldc2 99 dX10_known_3 w_1742 ?_
  refine ev_callS (M' := mX10_in) [.long ((x1).toInt64), .long 0, .long 99] vX10_in dX10_known_6 w_1421 rfl rfl (Nat.le_of_ble_eq_true rfl) (C10_in (P := 0 ≤ ((x1).toInt64).toInt ∧ ((x1).toInt64).toInt ≤ 99) (by (try simp only [i_l]); exact Iff.rfl) (Q := fun r9 s9 => σ = s9 ∧ ((r9 = some (.int 1) ∧ (0 ≤ ((x1).toInt64).toInt ∧ ((x1).toInt64).toInt ≤ 99)) ∨ (r9 = some (.int 0) ∧ ¬ (0 ≤ ((x1).toInt64).toInt ∧ ((x1).toInt64).toInt ≤ 99)))) ⟨fun c9 => ⟨rfl, Or.inl ⟨rfl, c9⟩⟩, fun c9 => ⟨rfl, Or.inr ⟨rfl, c9⟩⟩⟩) ?_
  rintro r9 s9 ⟨rfl, ⟨rfl, c9⟩ | ⟨rfl, c9⟩⟩
  · replace h := h.1 c9
    refine ev_if_eq 24 dX10_known_9 (by decide) (fun c9 => ?_) (fun c9 => ?_)
    · exact absurd c9 (by decide)
    · refine ev_iload_n 2 dX10_known_12 rfl ?_
      refine ev_i2l dX10_known_13 ?_
      refine ev_lconst 0 dX10_known_14 (by decide) ?_
      refine ev_ldc2 2 dX10_known_15 w_1504 ?_
      refine ev_callS (M' := mX10_in) [.long ((x2).toInt64), .long 0, .long 2] vX10_in dX10_known_18 w_1421 rfl rfl (Nat.le_of_ble_eq_true rfl) (C10_in (P := 0 ≤ ((x2).toInt64).toInt ∧ ((x2).toInt64).toInt ≤ 2) (by (try simp only [i_l]); exact Iff.rfl) (Q := fun r9 s9 => σ = s9 ∧ ((r9 = some (.int 1) ∧ (0 ≤ ((x2).toInt64).toInt ∧ ((x2).toInt64).toInt ≤ 2)) ∨ (r9 = some (.int 0) ∧ ¬ (0 ≤ ((x2).toInt64).toInt ∧ ((x2).toInt64).toInt ≤ 2)))) ⟨fun c9 => ⟨rfl, Or.inl ⟨rfl, c9⟩⟩, fun c9 => ⟨rfl, Or.inr ⟨rfl, c9⟩⟩⟩) ?_
      rintro r9 s9 ⟨rfl, ⟨rfl, c9⟩ | ⟨rfl, c9⟩⟩
      · replace h := h.1 c9
        refine ev_if_ne 26 dX10_known_21 (by decide) (fun c9 => ?_) (fun c9 => ?_)
        · refine ev_iconst 0 dX10_known_26 (by decide) ?_
          refine ev_istore_n (lv' := [(3, .int 0), (0, .ref 245), (1, .int x1), (2, .int x2)]) dX10_known_27 (Nat.le_of_ble_eq_true rfl) rfl ?_
          refine ev_bipush (-4) dX10_known_28 (by decide) ?_
          refine ev_istore (lv' := [(4, .int (-4)), (3, .int 0), (0, .ref 245), (1, .int x1), (2, .int x2)]) dX10_known_30 (Nat.le_of_ble_eq_true rfl) rfl ?_
          refine ev_bipush (-4) dX10_known_32 (by decide) ?_
          refine ev_istore (lv' := [(5, .int (-4)), (4, .int (-4)), (3, .int 0), (0, .ref 245), (1, .int x1), (2, .int x2)]) dX10_known_34 (Nat.le_of_ble_eq_true rfl) rfl ?_
          refine ev_iconst 0 dX10_known_36 (by decide) ?_
          refine ev_istore (lv' := [(6, .int 0), (5, .int (-4)), (4, .int (-4)), (3, .int 0), (0, .ref 245), (1, .int x1), (2, .int x2)]) dX10_known_37 (Nat.le_of_ble_eq_true rfl) rfl ?_
          refine ev_sub [4, 5, 6, 3, 2, 1, 0] rfl ?_
          exact h
        · exact absurd c9 (by decide)
      · replace h := h.2 c9
        refine ev_if_ne 26 dX10_known_21 (by decide) (fun c9 => ?_) (fun c9 => ?_)
        · exact absurd c9 (by decide)
        · refine ev_iconst (-1) dX10_known_24 (by decide) ?_
          exact ev_iret rfl dX10_known_25 h
  · replace h := h.2 c9
    refine ev_if_eq 24 dX10_known_9 (by decide) (fun c9 => ?_) (fun c9 => ?_)
    · refine ev_iconst (-1) dX10_known_24 (by decide) ?_
      exact ev_iret rfl dX10_known_25 h
    · exact absurd c9 (by decide)
theorem BX10_known_39 {N : Nat} {σ : Sg} {Q : Option Value → Sg → Prop} {x1 : Int32} {x2 : Int32} {x3 : Int32} {x4 : Int32} {x5 : Int32} {x6 : Int32} (h : ((σ.1 245 52) ≤ x6 → (x2 = 0 → Q (some (.int x3)) σ) ∧ (¬ x2 = 0 → (x2 = 1 → Q (some (.int x4)) σ) ∧ (¬ x2 = 1 → Q (some (.int x5)) σ))) ∧ (¬ (σ.1 245 52) ≤ x6 → vp_in x6 20 ∧ ((x1 < (σ.1 279 (x6).toNatClampNeg) → KX10_known_39 N σ Q x1 x2 x3 x4 x5 (x6 + 1)) ∧ (¬ x1 < (σ.1 279 (x6).toNatClampNeg) → vp_in x6 20 ∧ (((σ.1 280 (x6).toNatClampNeg) = (-4) → (x4 = (-4) → KX10_known_39 N σ Q x1 x2 (x3 + 1) x6 x6 (x6 + 1)) ∧ (¬ x4 = (-4) → KX10_known_39 N σ Q x1 x2 (x3 + 1) x4 x6 (x6 + 1))) ∧ (¬ (σ.1 280 (x6).toNatClampNeg) = (-4) → vp_in x6 20 ∧ (((σ.1 280 (x6).toNatClampNeg) ≤ x1 → KX10_known_39 N σ Q x1 x2 x3 x4 x5 (x6 + 1)) ∧ (¬ (σ.1 280 (x6).toNatClampNeg) ≤ x1 → (x4 = (-4) → KX10_known_39 N σ Q x1 x2 (x3 + 1) x6 x6 (x6 + 1)) ∧ (¬ x4 = (-4) → KX10_known_39 N σ Q x1 x2 (x3 + 1) x4 x6 (x6 + 1)))))))))) : KX10_known_39 N σ Q x1 x2 x3 x4 x5 x6 := by
  refine ev_iload 6 dX10_known_39 rfl ?_
  refine ev_aload_n 0 dX10_known_41 rfl ?_
  refine ev_get G10 lay_245 (k := 52) rfl (Nat.le_of_ble_eq_true rfl) dX10_known_42 w_1278 ?_
  refine ev_icmp_ge 111 dX10_known_45 (by decide) (fun c9 => ?_) (fun c9 => ?_)
  · replace h := h.1 c9
    refine ev_iload_n 2 dX10_known_111 rfl ?_
    refine ev_if_ne 119 dX10_known_112 (by decide) (fun c9 => ?_) (fun c9 => ?_)
    · replace h := h.2 c9
      refine ev_iload_n 2 dX10_known_119 rfl ?_
      refine ev_iconst 1 dX10_known_120 (by decide) ?_
      refine ev_icmp_ne 129 dX10_known_121 (by decide) (fun c9 => ?_) (fun c9 => ?_)
      · replace h := h.2 c9
        refine ev_iload 5 dX10_known_129 rfl ?_
        exact ev_iret rfl dX10_known_131 h
      · replace h := h.1 c9
        refine ev_iload 4 dX10_known_124 rfl ?_
        refine ev_goto 131 dX10_known_126 (by decide) ?_
        exact ev_iret rfl dX10_known_131 h
    · replace h := h.1 c9
      refine ev_iload_n 3 dX10_known_115 rfl ?_
      refine ev_goto 131 dX10_known_116 (by decide) ?_
      exact ev_iret rfl dX10_known_131 h
  · replace h := h.2 c9
    refine ev_aload_n 0 dX10_known_48 rfl ?_
    refine ev_getR (r := 279) G10 lay_245 (k := 55) rfl (Nat.le_of_ble_eq_true rfl) dX10_known_49 w_1281 ?_
    refine ev_iload 6 dX10_known_52 rfl ?_
    have hb54 := h.1
    replace h := h.2
    refine ev_iald lay_279 (Nat.le_of_ble_eq_true rfl) hb54 dX10_known_54 ?_
    refine ev_iload_n 1 dX10_known_55 rfl ?_
    refine ev_icmp_gt 105 dX10_known_56 (by decide) (fun c9 => ?_) (fun c9 => ?_)
    · replace h := h.1 c9
      refine ev_iinc (lv' := [(6, .int (x6 + 1)), (0, .ref 245), (1, .int x1), (2, .int x2), (3, .int x3), (4, .int x4), (5, .int x5)]) (x6 + 1) 6 dX10_known_105 rfl rfl (Nat.le_of_ble_eq_true rfl) rfl ?_
      refine ev_goto 39 dX10_known_108 (by decide) ?_
      refine ev_sub [1, 2, 3, 4, 5, 6, 0] rfl ?_
      exact h
    · replace h := h.2 c9
      refine ev_aload_n 0 dX10_known_59 rfl ?_
      refine ev_getR (r := 280) G10 lay_245 (k := 56) rfl (Nat.le_of_ble_eq_true rfl) dX10_known_60 w_1282 ?_
      refine ev_iload 6 dX10_known_63 rfl ?_
      have hb65 := h.1
      replace h := h.2
      refine ev_iald lay_280 (Nat.le_of_ble_eq_true rfl) hb65 dX10_known_65 ?_
      refine ev_bipush (-4) dX10_known_66 (by decide) ?_
      refine ev_icmp_eq 82 dX10_known_68 (by decide) (fun c9 => ?_) (fun c9 => ?_)
      · replace h := h.1 c9
        refine ev_iinc (lv' := [(3, .int (x3 + 1)), (0, .ref 245), (1, .int x1), (2, .int x2), (4, .int x4), (5, .int x5), (6, .int x6)]) (x3 + 1) 3 dX10_known_82 rfl rfl (Nat.le_of_ble_eq_true rfl) rfl ?_
        refine ev_iload 4 dX10_known_85 rfl ?_
        refine ev_bipush (-4) dX10_known_87 (by decide) ?_
        refine ev_icmp_ne 97 dX10_known_89 (by decide) (fun c9 => ?_) (fun c9 => ?_)
        · replace h := h.2 c9
          refine ev_iload 4 dX10_known_97 rfl ?_
          refine ev_istore (lv' := [(4, .int x4), (3, .int (x3 + 1)), (0, .ref 245), (1, .int x1), (2, .int x2), (5, .int x5), (6, .int x6)]) dX10_known_99 (Nat.le_of_ble_eq_true rfl) rfl ?_
          refine ev_iload 6 dX10_known_101 rfl ?_
          refine ev_istore (lv' := [(5, .int x6), (4, .int x4), (3, .int (x3 + 1)), (0, .ref 245), (1, .int x1), (2, .int x2), (6, .int x6)]) dX10_known_103 (Nat.le_of_ble_eq_true rfl) rfl ?_
          refine ev_iinc (lv' := [(6, .int (x6 + 1)), (5, .int x6), (4, .int x4), (3, .int (x3 + 1)), (0, .ref 245), (1, .int x1), (2, .int x2)]) (x6 + 1) 6 dX10_known_105 rfl rfl (Nat.le_of_ble_eq_true rfl) rfl ?_
          refine ev_goto 39 dX10_known_108 (by decide) ?_
          refine ev_sub [4, 5, 6, 3, 2, 1, 0] rfl ?_
          exact h
        · replace h := h.1 c9
          refine ev_iload 6 dX10_known_92 rfl ?_
          refine ev_goto 99 dX10_known_94 (by decide) ?_
          refine ev_istore (lv' := [(4, .int x6), (3, .int (x3 + 1)), (0, .ref 245), (1, .int x1), (2, .int x2), (5, .int x5), (6, .int x6)]) dX10_known_99 (Nat.le_of_ble_eq_true rfl) rfl ?_
          refine ev_iload 6 dX10_known_101 rfl ?_
          refine ev_istore (lv' := [(5, .int x6), (4, .int x6), (3, .int (x3 + 1)), (0, .ref 245), (1, .int x1), (2, .int x2), (6, .int x6)]) dX10_known_103 (Nat.le_of_ble_eq_true rfl) rfl ?_
          refine ev_iinc (lv' := [(6, .int (x6 + 1)), (5, .int x6), (4, .int x6), (3, .int (x3 + 1)), (0, .ref 245), (1, .int x1), (2, .int x2)]) (x6 + 1) 6 dX10_known_105 rfl rfl (Nat.le_of_ble_eq_true rfl) rfl ?_
          refine ev_goto 39 dX10_known_108 (by decide) ?_
          refine ev_sub [4, 5, 6, 3, 2, 1, 0] rfl ?_
          exact h
      · replace h := h.2 c9
        refine ev_aload_n 0 dX10_known_71 rfl ?_
        refine ev_getR (r := 280) G10 lay_245 (k := 56) rfl (Nat.le_of_ble_eq_true rfl) dX10_known_72 w_1282 ?_
        refine ev_iload 6 dX10_known_75 rfl ?_
        have hb77 := h.1
        replace h := h.2
        refine ev_iald lay_280 (Nat.le_of_ble_eq_true rfl) hb77 dX10_known_77 ?_
        refine ev_iload_n 1 dX10_known_78 rfl ?_
        refine ev_icmp_le 105 dX10_known_79 (by decide) (fun c9 => ?_) (fun c9 => ?_)
        · replace h := h.1 c9
          refine ev_iinc (lv' := [(6, .int (x6 + 1)), (0, .ref 245), (1, .int x1), (2, .int x2), (3, .int x3), (4, .int x4), (5, .int x5)]) (x6 + 1) 6 dX10_known_105 rfl rfl (Nat.le_of_ble_eq_true rfl) rfl ?_
          refine ev_goto 39 dX10_known_108 (by decide) ?_
          refine ev_sub [1, 2, 3, 4, 5, 6, 0] rfl ?_
          exact h
        · replace h := h.2 c9
          refine ev_iinc (lv' := [(3, .int (x3 + 1)), (0, .ref 245), (1, .int x1), (2, .int x2), (4, .int x4), (5, .int x5), (6, .int x6)]) (x3 + 1) 3 dX10_known_82 rfl rfl (Nat.le_of_ble_eq_true rfl) rfl ?_
          refine ev_iload 4 dX10_known_85 rfl ?_
          refine ev_bipush (-4) dX10_known_87 (by decide) ?_
          refine ev_icmp_ne 97 dX10_known_89 (by decide) (fun c9 => ?_) (fun c9 => ?_)
          · replace h := h.2 c9
            refine ev_iload 4 dX10_known_97 rfl ?_
            refine ev_istore (lv' := [(4, .int x4), (3, .int (x3 + 1)), (0, .ref 245), (1, .int x1), (2, .int x2), (5, .int x5), (6, .int x6)]) dX10_known_99 (Nat.le_of_ble_eq_true rfl) rfl ?_
            refine ev_iload 6 dX10_known_101 rfl ?_
            refine ev_istore (lv' := [(5, .int x6), (4, .int x4), (3, .int (x3 + 1)), (0, .ref 245), (1, .int x1), (2, .int x2), (6, .int x6)]) dX10_known_103 (Nat.le_of_ble_eq_true rfl) rfl ?_
            refine ev_iinc (lv' := [(6, .int (x6 + 1)), (5, .int x6), (4, .int x4), (3, .int (x3 + 1)), (0, .ref 245), (1, .int x1), (2, .int x2)]) (x6 + 1) 6 dX10_known_105 rfl rfl (Nat.le_of_ble_eq_true rfl) rfl ?_
            refine ev_goto 39 dX10_known_108 (by decide) ?_
            refine ev_sub [4, 5, 6, 3, 2, 1, 0] rfl ?_
            exact h
          · replace h := h.1 c9
            refine ev_iload 6 dX10_known_92 rfl ?_
            refine ev_goto 99 dX10_known_94 (by decide) ?_
            refine ev_istore (lv' := [(4, .int x6), (3, .int (x3 + 1)), (0, .ref 245), (1, .int x1), (2, .int x2), (5, .int x5), (6, .int x6)]) dX10_known_99 (Nat.le_of_ble_eq_true rfl) rfl ?_
            refine ev_iload 6 dX10_known_101 rfl ?_
            refine ev_istore (lv' := [(5, .int x6), (4, .int x6), (3, .int (x3 + 1)), (0, .ref 245), (1, .int x1), (2, .int x2), (6, .int x6)]) dX10_known_103 (Nat.le_of_ble_eq_true rfl) rfl ?_
            refine ev_iinc (lv' := [(6, .int (x6 + 1)), (5, .int x6), (4, .int x6), (3, .int (x3 + 1)), (0, .ref 245), (1, .int x1), (2, .int x2)]) (x6 + 1) 6 dX10_known_105 rfl rfl (Nat.le_of_ble_eq_true rfl) rfl ?_
            refine ev_goto 39 dX10_known_108 (by decide) ?_
            refine ev_sub [4, 5, 6, 3, 2, 1, 0] rfl ?_
            exact h
theorem EX10_isSheet {N : Nat} {σ : Sg} {Q : Option Value → Sg → Prop} {x0 : Int32} {x1 : Int32} (h : ((0 ≤ ((x0).toInt64).toInt ∧ ((x0).toInt64).toInt ≤ 3) → ((0 ≤ ((x1).toInt64).toInt ∧ ((x1).toInt64).toInt ≤ 2) → Q (some (.int 1)) σ) ∧ (¬ (0 ≤ ((x1).toInt64).toInt ∧ ((x1).toInt64).toInt ≤ 2) → Q (some (.int 0)) σ)) ∧ (¬ (0 ≤ ((x0).toInt64).toInt ∧ ((x0).toInt64).toInt ≤ 3) → Q (some (.int 0)) σ)) : EvM (N + 1) mX10_isSheet [.int x0, .int x1] σ Q := by
  refine ev_entry rfl (Nat.le_of_ble_eq_true rfl) (lv := [(0, .int x0), (1, .int x1)]) rfl ?_
  refine ev_iload_n 0 dX10_isSheet_0 rfl ?_
  refine ev_i2l dX10_isSheet_1 ?_
  refine ev_lconst 0 dX10_isSheet_2 (by decide) ?_
  refine ev_ldc2 3 dX10_isSheet_3 w_1448 ?_
  refine ev_callS (M' := mX10_in) [.long ((x0).toInt64), .long 0, .long 3] vX10_in dX10_isSheet_6 w_1421 rfl rfl (Nat.le_of_ble_eq_true rfl) (C10_in (P := 0 ≤ ((x0).toInt64).toInt ∧ ((x0).toInt64).toInt ≤ 3) (by (try simp only [i_l]); exact Iff.rfl) (Q := fun r9 s9 => σ = s9 ∧ ((r9 = some (.int 1) ∧ (0 ≤ ((x0).toInt64).toInt ∧ ((x0).toInt64).toInt ≤ 3)) ∨ (r9 = some (.int 0) ∧ ¬ (0 ≤ ((x0).toInt64).toInt ∧ ((x0).toInt64).toInt ≤ 3)))) ⟨fun c9 => ⟨rfl, Or.inl ⟨rfl, c9⟩⟩, fun c9 => ⟨rfl, Or.inr ⟨rfl, c9⟩⟩⟩) ?_
  rintro r9 s9 ⟨rfl, ⟨rfl, c9⟩ | ⟨rfl, c9⟩⟩
  · replace h := h.1 c9
    refine ev_if_eq 28 dX10_isSheet_9 (by decide) (fun c9 => ?_) (fun c9 => ?_)
    · exact absurd c9 (by decide)
    · refine ev_iload_n 1 dX10_isSheet_12 rfl ?_
      refine ev_i2l dX10_isSheet_13 ?_
      refine ev_lconst 0 dX10_isSheet_14 (by decide) ?_
      refine ev_ldc2 2 dX10_isSheet_15 w_1504 ?_
      refine ev_callS (M' := mX10_in) [.long ((x1).toInt64), .long 0, .long 2] vX10_in dX10_isSheet_18 w_1421 rfl rfl (Nat.le_of_ble_eq_true rfl) (C10_in (P := 0 ≤ ((x1).toInt64).toInt ∧ ((x1).toInt64).toInt ≤ 2) (by (try simp only [i_l]); exact Iff.rfl) (Q := fun r9 s9 => σ = s9 ∧ ((r9 = some (.int 1) ∧ (0 ≤ ((x1).toInt64).toInt ∧ ((x1).toInt64).toInt ≤ 2)) ∨ (r9 = some (.int 0) ∧ ¬ (0 ≤ ((x1).toInt64).toInt ∧ ((x1).toInt64).toInt ≤ 2)))) ⟨fun c9 => ⟨rfl, Or.inl ⟨rfl, c9⟩⟩, fun c9 => ⟨rfl, Or.inr ⟨rfl, c9⟩⟩⟩) ?_
      rintro r9 s9 ⟨rfl, ⟨rfl, c9⟩ | ⟨rfl, c9⟩⟩
      · replace h := h.1 c9
        refine ev_if_eq 28 dX10_isSheet_21 (by decide) (fun c9 => ?_) (fun c9 => ?_)
        · exact absurd c9 (by decide)
        · refine ev_iconst 1 dX10_isSheet_24 (by decide) ?_
          refine ev_goto 29 dX10_isSheet_25 (by decide) ?_
          exact ev_zret (ty := .boolean) rfl (by rfl) dX10_isSheet_29 h
      · replace h := h.2 c9
        refine ev_if_eq 28 dX10_isSheet_21 (by decide) (fun c9 => ?_) (fun c9 => ?_)
        · refine ev_iconst 0 dX10_isSheet_28 (by decide) ?_
          exact ev_zret (ty := .boolean) rfl (by rfl) dX10_isSheet_29 h
        · exact absurd c9 (by decide)
  · replace h := h.2 c9
    refine ev_if_eq 28 dX10_isSheet_9 (by decide) (fun c9 => ?_) (fun c9 => ?_)
    · refine ev_iconst 0 dX10_isSheet_28 (by decide) ?_
      exact ev_zret (ty := .boolean) rfl (by rfl) dX10_isSheet_29 h
    · exact absurd c9 (by decide)
abbrev KX10_sheet_40 (N : Nat) (σ : Sg) (Q : Option Value → Sg → Prop) (x1 : Int32) (x4 : Int32) : Prop := Ev (N + 2) mX10_sheet 40 [(0, .ref 245), (1, .int x1), (4, .int x4)] [] σ Q
theorem EX10_sheet {N : Nat} {σ : Sg} {Q : Option Value → Sg → Prop} {x1 : Int32} {x2 : Int32} {x3 : Int32} (h : EvM (N + 1) mX10_isSheet [.int x1, .int x2] σ (fun r9 σ1 => ∃ v1, r9 = some (.int v1) ∧ ((v1 = 0 → Q (some (.int (-1))) σ1) ∧ (¬ v1 = 0 → (x3 ≤ 60 → (0 ≤ x3 → vp_in x1 4 ∧ (vp_in x1 4 ∧ (KX10_sheet_40 N (u1 (u1 σ1 283 (x1).toNatClampNeg x2) 284 (x1).toNatClampNeg x3) Q x1 0))) ∧ (¬ 0 ≤ x3 → Q (some (.int (-14))) σ1)) ∧ (¬ x3 ≤ 60 → Q (some (.int (-1))) σ1))))) : EvM (N + 2) mX10_sheet [.ref 245, .int x1, .int x2, .int x3] σ Q := by
  refine ev_entry rfl (Nat.le_of_ble_eq_true rfl) (lv := [(0, .ref 245), (1, .int x1), (2, .int x2), (3, .int x3)]) rfl ?_
  refine ev_iload_n 1 dX10_sheet_0 rfl ?_
  refine ev_iload_n 2 dX10_sheet_1 rfl ?_
  refine ev_callS (M' := mX10_isSheet) [.int x1, .int x2] vX10_isSheet dX10_sheet_2 w_1751 rfl rfl (Nat.le_of_ble_eq_true rfl) h ?_
  rintro r9 σ1 ⟨v1, rfl, h⟩
  refine ev_if_eq 14 dX10_sheet_5 (by decide) (fun c9 => ?_) (fun c9 => ?_)
  · replace h := h.1 c9
    refine ev_iconst (-1) dX10_sheet_14 (by decide) ?_
    exact ev_iret rfl dX10_sheet_15 h
  · replace h := h.2 c9
    refine ev_iload_n 3 dX10_sheet_8 rfl ?_
    refine ev_bipush 60 dX10_sheet_9 (by decide) ?_
    refine ev_icmp_le 16 dX10_sheet_11 (by decide) (fun c9 => ?_) (fun c9 => ?_)
    · replace h := h.1 c9
      refine ev_iload_n 3 dX10_sheet_16 rfl ?_
      refine ev_if_ge 23 dX10_sheet_17 (by decide) (fun c9 => ?_) (fun c9 => ?_)
      · replace h := h.1 c9
        refine ev_aload_n 0 dX10_sheet_23 rfl ?_
        refine ev_getR (r := 283) G10 lay_245 (k := 60) rfl (Nat.le_of_ble_eq_true rfl) dX10_sheet_24 w_1286 ?_
        refine ev_iload_n 1 dX10_sheet_27 rfl ?_
        refine ev_iload_n 2 dX10_sheet_28 rfl ?_
        have hb29 := h.1
        replace h := h.2
        refine ev_iast lay_283 (Nat.le_of_ble_eq_true rfl) hb29 dX10_sheet_29 ?_
        refine ev_aload_n 0 dX10_sheet_30 rfl ?_
        refine ev_getR (r := 284) G10 lay_245 (k := 61) rfl (Nat.le_of_ble_eq_true rfl) dX10_sheet_31 w_1287 ?_
        refine ev_iload_n 1 dX10_sheet_34 rfl ?_
        refine ev_iload_n 3 dX10_sheet_35 rfl ?_
        have hb36 := h.1
        replace h := h.2
        refine ev_iast lay_284 (Nat.le_of_ble_eq_true rfl) hb36 dX10_sheet_36 ?_
        refine ev_iconst 0 dX10_sheet_37 (by decide) ?_
        refine ev_istore (lv' := [(4, .int 0), (0, .ref 245), (1, .int x1), (2, .int x2), (3, .int x3)]) dX10_sheet_38 (Nat.le_of_ble_eq_true rfl) rfl ?_
        refine ev_sub [1, 2, 0] rfl ?_
        exact h
      · replace h := h.2 c9
        refine ev_bipush (-14) dX10_sheet_20 (by decide) ?_
        exact ev_iret rfl dX10_sheet_22 h
    · replace h := h.2 c9
      refine ev_iconst (-1) dX10_sheet_14 (by decide) ?_
      exact ev_iret rfl dX10_sheet_15 h
theorem BX10_sheet_40 {N : Nat} {σ : Sg} {Q : Option Value → Sg → Prop} {x1 : Int32} {x4 : Int32} (h : (60 ≤ x4 → Q (some (.int 1)) σ) ∧ (¬ 60 ≤ x4 → vp_in ((60 * x1) + x4) 240 ∧ (KX10_sheet_40 N (u1 σ 285 ((60 * x1) + x4).toNatClampNeg 0) Q x1 (x4 + 1)))) : KX10_sheet_40 N σ Q x1 x4 := by
  refine ev_iload 2 dX10_sheet_40 rfl ?_
  refine ev_bipush 60 dX10_sheet_42 (by decide) ?_
  refine ev_icmp_ge 66 dX10_sheet_44 (by decide) (fun c9 => ?_) (fun c9 => ?_)
  · replace h := h.1 c9
    refine ev_iconst 1 dX10_sheet_66 (by decide) ?_
    exact ev_iret rfl dX10_sheet_67 h
  · replace h := h.2 c9
    refine ev_aload_n 0 dX10_sheet_47 rfl ?_
    refine ev_getR (r := 285) G10 lay_245 (k := 62) rfl (Nat.le_of_ble_eq_true rfl) dX10_sheet_48 w_1288 ?_
    refine ev_bipush 60 dX10_sheet_51 (by decide) ?_
    refine ev_iload_n 1 dX10_sheet_53 rfl ?_
    refine ev_imul dX10_sheet_54 ?_
    refine ev_iload 2 dX10_sheet_55 rfl ?_
    refine ev_iadd dX10_sheet_57 ?_
    refine ev_iconst 0 dX10_sheet_58 (by decide) ?_
    have hb59 := h.1
    replace h := h.2
    refine ev_iast lay_285 (Nat.le_of_ble_eq_true rfl) hb59 dX10_sheet_59 ?_
    refine ev_iinc (lv' := [(4, .int (x4 + 1)), (0, .ref 245), (1, .int x1)]) (x4 + 1) 2 dX10_sheet_60 rfl rfl (Nat.le_of_ble_eq_true rfl) rfl ?_
    refine ev_goto 40 dX10_sheet_63 (by decide) ?_
    refine ev_sub [1, 2, 0] rfl ?_
    exact h
theorem EX10_lay {N : Nat} {σ : Sg} {Q : Option Value → Sg → Prop} {x1 : Int32} {x2 : Int32} {x3 : Int32} (h : EvM (N + 1) mX10_isSheet [.int x1, .int 0] σ (fun r9 σ1 => ∃ v1, r9 = some (.int v1) ∧ ((v1 = 0 → Q (some (.int (-1))) σ1) ∧ (¬ v1 = 0 → vp_in x1 4 ∧ (((σ1.1 283 (x1).toNatClampNeg) = (-4) → Q (some (.int (-11))) σ1) ∧ (¬ (σ1.1 283 (x1).toNatClampNeg) = (-4) → vp_in x1 4 ∧ (((0 ≤ ((x2).toInt64).toInt ∧ ((x2).toInt64).toInt ≤ (((σ1.1 284 (x1).toNatClampNeg) - 1).toInt64).toInt) → vp_in x1 4 ∧ (((σ1.1 283 (x1).toNatClampNeg) = 0 → vp_in ((60 * x1) + x2) 240 ∧ (Q (some (.int 1)) (u1 σ1 285 ((60 * x1) + x2).toNatClampNeg ((x3).toInt8.toInt32)))) ∧ (¬ (σ1.1 283 (x1).toNatClampNeg) = 0 → vp_in x1 4 ∧ (((σ1.1 283 (x1).toNatClampNeg) = 1 → vp_in ((60 * x1) + x2) 240 ∧ (Q (some (.int 1)) (u1 σ1 285 ((60 * x1) + x2).toNatClampNeg ((x3).toInt16.toInt32)))) ∧ (¬ (σ1.1 283 (x1).toNatClampNeg) = 1 → vp_in ((60 * x1) + x2) 240 ∧ (Q (some (.int 1)) (u1 σ1 285 ((60 * x1) + x2).toNatClampNeg x3))))))) ∧ (¬ (0 ≤ ((x2).toInt64).toInt ∧ ((x2).toInt64).toInt ≤ (((σ1.1 284 (x1).toNatClampNeg) - 1).toInt64).toInt) → Q (some (.int (-12))) σ1)))))))) : EvM (N + 2) mX10_lay [.ref 245, .int x1, .int x2, .int x3] σ Q := by
  refine ev_entry rfl (Nat.le_of_ble_eq_true rfl) (lv := [(0, .ref 245), (1, .int x1), (2, .int x2), (3, .int x3)]) rfl ?_
  refine ev_iload_n 1 dX10_lay_0 rfl ?_
  refine ev_iconst 0 dX10_lay_1 (by decide) ?_
  refine ev_callS (M' := mX10_isSheet) [.int x1, .int 0] vX10_isSheet dX10_lay_2 w_1751 rfl rfl (Nat.le_of_ble_eq_true rfl) h ?_
  rintro r9 σ1 ⟨v1, rfl, h⟩
  refine ev_if_ne 10 dX10_lay_5 (by decide) (fun c9 => ?_) (fun c9 => ?_)
  · replace h := h.2 c9
    refine ev_aload_n 0 dX10_lay_10 rfl ?_
    refine ev_getR (r := 283) G10 lay_245 (k := 60) rfl (Nat.le_of_ble_eq_true rfl) dX10_lay_11 w_1286 ?_
    refine ev_iload_n 1 dX10_lay_14 rfl ?_
    have hb15 := h.1
    replace h := h.2
    refine ev_iald lay_283 (Nat.le_of_ble_eq_true rfl) hb15 dX10_lay_15 ?_
    refine ev_bipush (-4) dX10_lay_16 (by decide) ?_
    refine ev_icmp_ne 24 dX10_lay_18 (by decide) (fun c9 => ?_) (fun c9 => ?_)
    · replace h := h.2 c9
      refine ev_iload_n 2 dX10_lay_24 rfl ?_
      refine ev_i2l dX10_lay_25 ?_
      refine ev_lconst 0 dX10_lay_26 (by decide) ?_
      refine ev_aload_n 0 dX10_lay_27 rfl ?_
      refine ev_getR (r := 284) G10 lay_245 (k := 61) rfl (Nat.le_of_ble_eq_true rfl) dX10_lay_28 w_1287 ?_
      refine ev_iload_n 1 dX10_lay_31 rfl ?_
      have hb32 := h.1
      replace h := h.2
      refine ev_iald lay_284 (Nat.le_of_ble_eq_true rfl) hb32 dX10_lay_32 ?_
      refine ev_iconst 1 dX10_lay_33 (by decide) ?_
      refine ev_isub dX10_lay_34 ?_
      refine ev_i2l dX10_lay_35 ?_
      refine ev_callS (M' := mX10_in) [.long ((x2).toInt64), .long 0, .long (((σ1.1 284 (x1).toNatClampNeg) - 1).toInt64)] vX10_in dX10_lay_36 w_1421 rfl rfl (Nat.le_of_ble_eq_true rfl) (C10_in (P := 0 ≤ ((x2).toInt64).toInt ∧ ((x2).toInt64).toInt ≤ (((σ1.1 284 (x1).toNatClampNeg) - 1).toInt64).toInt) (by (try simp only [i_l]); exact Iff.rfl) (Q := fun r9 s9 => σ1 = s9 ∧ ((r9 = some (.int 1) ∧ (0 ≤ ((x2).toInt64).toInt ∧ ((x2).toInt64).toInt ≤ (((σ1.1 284 (x1).toNatClampNeg) - 1).toInt64).toInt)) ∨ (r9 = some (.int 0) ∧ ¬ (0 ≤ ((x2).toInt64).toInt ∧ ((x2).toInt64).toInt ≤ (((σ1.1 284 (x1).toNatClampNeg) - 1).toInt64).toInt)))) ⟨fun c9 => ⟨rfl, Or.inl ⟨rfl, c9⟩⟩, fun c9 => ⟨rfl, Or.inr ⟨rfl, c9⟩⟩⟩) ?_
      rintro r9 s9 ⟨rfl, ⟨rfl, c9⟩ | ⟨rfl, c9⟩⟩
      · replace h := h.1 c9
        refine ev_if_ne 45 dX10_lay_39 (by decide) (fun c9 => ?_) (fun c9 => ?_)
        · refine ev_aload_n 0 dX10_lay_45 rfl ?_
          refine ev_getR (r := 285) G10 lay_245 (k := 62) rfl (Nat.le_of_ble_eq_true rfl) dX10_lay_46 w_1288 ?_
          refine ev_bipush 60 dX10_lay_49 (by decide) ?_
          refine ev_iload_n 1 dX10_lay_51 rfl ?_
          refine ev_imul dX10_lay_52 ?_
          refine ev_iload_n 2 dX10_lay_53 rfl ?_
          refine ev_iadd dX10_lay_54 ?_
          refine ev_aload_n 0 dX10_lay_55 rfl ?_
          refine ev_getR (r := 283) G10 lay_245 (k := 60) rfl (Nat.le_of_ble_eq_true rfl) dX10_lay_56 w_1286 ?_
          refine ev_iload_n 1 dX10_lay_59 rfl ?_
          have hb60 := h.1
          replace h := h.2
          refine ev_iald lay_283 (Nat.le_of_ble_eq_true rfl) hb60 dX10_lay_60 ?_
          refine ev_if_ne 69 dX10_lay_61 (by decide) (fun c9 => ?_) (fun c9 => ?_)
          · replace h := h.2 c9
            refine ev_aload_n 0 dX10_lay_69 rfl ?_
            refine ev_getR (r := 283) G10 lay_245 (k := 60) rfl (Nat.le_of_ble_eq_true rfl) dX10_lay_70 w_1286 ?_
            refine ev_iload_n 1 dX10_lay_73 rfl ?_
            have hb74 := h.1
            replace h := h.2
            refine ev_iald lay_283 (Nat.le_of_ble_eq_true rfl) hb74 dX10_lay_74 ?_
            refine ev_iconst 1 dX10_lay_75 (by decide) ?_
            refine ev_icmp_ne 84 dX10_lay_76 (by decide) (fun c9 => ?_) (fun c9 => ?_)
            · replace h := h.2 c9
              refine ev_iload_n 3 dX10_lay_84 rfl ?_
              have hb85 := h.1
              replace h := h.2
              refine ev_iast lay_285 (Nat.le_of_ble_eq_true rfl) hb85 dX10_lay_85 ?_
              refine ev_iconst 1 dX10_lay_86 (by decide) ?_
              exact ev_iret rfl dX10_lay_87 h
            · replace h := h.1 c9
              refine ev_iload_n 3 dX10_lay_79 rfl ?_
              refine ev_i2s dX10_lay_80 ?_
              refine ev_goto 85 dX10_lay_81 (by decide) ?_
              have hb85 := h.1
              replace h := h.2
              refine ev_iast lay_285 (Nat.le_of_ble_eq_true rfl) hb85 dX10_lay_85 ?_
              refine ev_iconst 1 dX10_lay_86 (by decide) ?_
              exact ev_iret rfl dX10_lay_87 h
          · replace h := h.1 c9
            refine ev_iload_n 3 dX10_lay_64 rfl ?_
            refine ev_i2b dX10_lay_65 ?_
            refine ev_goto 85 dX10_lay_66 (by decide) ?_
            have hb85 := h.1
            replace h := h.2
            refine ev_iast lay_285 (Nat.le_of_ble_eq_true rfl) hb85 dX10_lay_85 ?_
            refine ev_iconst 1 dX10_lay_86 (by decide) ?_
            exact ev_iret rfl dX10_lay_87 h
        · exact absurd c9 (by decide)
      · replace h := h.2 c9
        refine ev_if_ne 45 dX10_lay_39 (by decide) (fun c9 => ?_) (fun c9 => ?_)
        · exact absurd c9 (by decide)
        · refine ev_bipush (-12) dX10_lay_42 (by decide) ?_
          exact ev_iret rfl dX10_lay_44 h
    · replace h := h.1 c9
      refine ev_bipush (-11) dX10_lay_21 (by decide) ?_
      exact ev_iret rfl dX10_lay_23 h
  · replace h := h.1 c9
    refine ev_iconst (-1) dX10_lay_8 (by decide) ?_
    exact ev_iret rfl dX10_lay_9 h
abbrev KX10_text_55 (N : Nat) (σ : Sg) (Q : Option Value → Sg → Prop) (x1 : Int32) (x3 : Int32) (x4 : Int32) (x5 : Int32) : Prop := Ev (N + 2) mX10_text 55 [(0, .ref 245), (1, .int x1), (3, .int x3), (4, .int x4), (5, .int x5)] [] σ Q
abbrev KX10_text_150 (N : Nat) (σ : Sg) (Q : Option Value → Sg → Prop) (x1 : Int32) (x3 : Int32) (x4 : Int32) (x5 : Int32) : Prop := Ev (N + 2) mX10_text 150 [(0, .ref 245), (1, .int x1), (3, .int x3), (4, .int x4), (5, .int x5)] [] σ Q
theorem EX10_text {N : Nat} {σ : Sg} {Q : Option Value → Sg → Prop} {x1 : Int32} {x2 : Int32} {x3 : Int32} {x4 : Int32} (h : EvM (N + 1) mX10_isSheet [.int x1, .int x2] σ (fun r9 σ1 => ∃ v1, r9 = some (.int v1) ∧ ((v1 = 0 → Q (some (.int (-1))) σ1) ∧ (¬ v1 = 0 → ((1 ≤ ((x4).toInt64).toInt ∧ ((x4).toInt64).toInt ≤ 24) → vp_in x1 4 ∧ (((σ1.1 283 (x1).toNatClampNeg) = x2 → KX10_text_55 N σ1 Q x1 x3 x4 0) ∧ (¬ (σ1.1 283 (x1).toNatClampNeg) = x2 → vp_in x1 4 ∧ (((σ1.1 283 (x1).toNatClampNeg) = (-4) → Q (some (.int (-11))) σ1) ∧ (¬ (σ1.1 283 (x1).toNatClampNeg) = (-4) → Q (some (.int (-13))) σ1))))) ∧ (¬ (1 ≤ ((x4).toInt64).toInt ∧ ((x4).toInt64).toInt ≤ 24) → Q (some (.int (-1))) σ1))))) : EvM (N + 2) mX10_text [.ref 245, .int x1, .int x2, .int x3, .int x4] σ Q := by
  refine ev_entry rfl (Nat.le_of_ble_eq_true rfl) (lv := [(0, .ref 245), (1, .int x1), (2, .int x2), (3, .int x3), (4, .int x4)]) rfl ?_
  refine ev_iload_n 1 dX10_text_0 rfl ?_
  refine ev_iload_n 2 dX10_text_1 rfl ?_
  refine ev_callS (M' := mX10_isSheet) [.int x1, .int x2] vX10_isSheet dX10_text_2 w_1751 rfl rfl (Nat.le_of_ble_eq_true rfl) h ?_
  rintro r9 σ1 ⟨v1, rfl, h⟩
  refine ev_if_eq 21 dX10_text_5 (by decide) (fun c9 => ?_) (fun c9 => ?_)
  · replace h := h.1 c9
    refine ev_iconst (-1) dX10_text_21 (by decide) ?_
    exact ev_iret rfl dX10_text_22 h
  · replace h := h.2 c9
    refine ev_iload 4 dX10_text_8 rfl ?_
    refine ev_i2l dX10_text_10 ?_
    refine ev_lconst 1 dX10_text_11 (by decide) ?_
    refine ev_ldc2 24 dX10_text_12 w_1762 ?_
    refine ev_callS (M' := mX10_in) [.long ((x4).toInt64), .long 1, .long 24] vX10_in dX10_text_15 w_1421 rfl rfl (Nat.le_of_ble_eq_true rfl) (C10_in (P := 1 ≤ ((x4).toInt64).toInt ∧ ((x4).toInt64).toInt ≤ 24) (by (try simp only [i_l]); exact Iff.rfl) (Q := fun r9 s9 => σ1 = s9 ∧ ((r9 = some (.int 1) ∧ (1 ≤ ((x4).toInt64).toInt ∧ ((x4).toInt64).toInt ≤ 24)) ∨ (r9 = some (.int 0) ∧ ¬ (1 ≤ ((x4).toInt64).toInt ∧ ((x4).toInt64).toInt ≤ 24)))) ⟨fun c9 => ⟨rfl, Or.inl ⟨rfl, c9⟩⟩, fun c9 => ⟨rfl, Or.inr ⟨rfl, c9⟩⟩⟩) ?_
    rintro r9 s9 ⟨rfl, ⟨rfl, c9⟩ | ⟨rfl, c9⟩⟩
    · replace h := h.1 c9
      refine ev_if_ne 23 dX10_text_18 (by decide) (fun c9 => ?_) (fun c9 => ?_)
      · refine ev_aload_n 0 dX10_text_23 rfl ?_
        refine ev_getR (r := 283) G10 lay_245 (k := 60) rfl (Nat.le_of_ble_eq_true rfl) dX10_text_24 w_1286 ?_
        refine ev_iload_n 1 dX10_text_27 rfl ?_
        have hb28 := h.1
        replace h := h.2
        refine ev_iald lay_283 (Nat.le_of_ble_eq_true rfl) hb28 dX10_text_28 ?_
        refine ev_iload_n 2 dX10_text_29 rfl ?_
        refine ev_icmp_eq 52 dX10_text_30 (by decide) (fun c9 => ?_) (fun c9 => ?_)
        · replace h := h.1 c9
          refine ev_iconst 0 dX10_text_52 (by decide) ?_
          refine ev_istore (lv' := [(5, .int 0), (0, .ref 245), (1, .int x1), (2, .int x2), (3, .int x3), (4, .int x4)]) dX10_text_53 (Nat.le_of_ble_eq_true rfl) rfl ?_
          refine ev_sub [1, 2, 4, 5, 0] rfl ?_
          exact h
        · replace h := h.2 c9
          refine ev_aload_n 0 dX10_text_33 rfl ?_
          refine ev_getR (r := 283) G10 lay_245 (k := 60) rfl (Nat.le_of_ble_eq_true rfl) dX10_text_34 w_1286 ?_
          refine ev_iload_n 1 dX10_text_37 rfl ?_
          have hb38 := h.1
          replace h := h.2
          refine ev_iald lay_283 (Nat.le_of_ble_eq_true rfl) hb38 dX10_text_38 ?_
          refine ev_bipush (-4) dX10_text_39 (by decide) ?_
          refine ev_icmp_ne 49 dX10_text_41 (by decide) (fun c9 => ?_) (fun c9 => ?_)
          · replace h := h.2 c9
            refine ev_bipush (-13) dX10_text_49 (by decide) ?_
            exact ev_iret rfl dX10_text_51 h
          · replace h := h.1 c9
            refine ev_bipush (-11) dX10_text_44 (by decide) ?_
            refine ev_goto 51 dX10_text_46 (by decide) ?_
            exact ev_iret rfl dX10_text_51 h
      · exact absurd c9 (by decide)
    · replace h := h.2 c9
      refine ev_if_ne 23 dX10_text_18 (by decide) (fun c9 => ?_) (fun c9 => ?_)
      · exact absurd c9 (by decide)
      · refine ev_iconst (-1) dX10_text_21 (by decide) ?_
        exact ev_iret rfl dX10_text_22 h
theorem BX10_text_55 {N : Nat} {σ : Sg} {Q : Option Value → Sg → Prop} {x1 : Int32} {x3 : Int32} {x4 : Int32} {x5 : Int32} (h : (x4 ≤ x5 → ((σ.1 245 4) = 8 → Q (some (.int (-3))) σ) ∧ (¬ (σ.1 245 4) = 8 → KX10_text_150 N σ Q x1 x3 x4 0)) ∧ (¬ x4 ≤ x5 → ((lg_cmp (((x3).toInt64) + ((x5).toInt64)) 0) < 0 → Q (some (.int (-12))) σ) ∧ (¬ (lg_cmp (((x3).toInt64) + ((x5).toInt64)) 0) < 0 → vp_in x1 4 ∧ (((lg_cmp (((x3).toInt64) + ((x5).toInt64)) ((σ.1 284 (x1).toNatClampNeg).toInt64)) < 0 → vp_in ((60 * x1) + ((((x3).toInt64) + ((x5).toInt64)).toInt32)) 240 ∧ ((((-2) ≤ ((σ.1 285 ((60 * x1) + ((((x3).toInt64) + ((x5).toInt64)).toInt32)).toNatClampNeg).toInt64).toInt ∧ ((σ.1 285 ((60 * x1) + ((((x3).toInt64) + ((x5).toInt64)).toInt32)).toNatClampNeg).toInt64).toInt ≤ (((σ.1 245 0) - 1).toInt64).toInt) → KX10_text_55 N σ Q x1 x3 x4 (x5 + 1)) ∧ (¬ ((-2) ≤ ((σ.1 285 ((60 * x1) + ((((x3).toInt64) + ((x5).toInt64)).toInt32)).toNatClampNeg).toInt64).toInt ∧ ((σ.1 285 ((60 * x1) + ((((x3).toInt64) + ((x5).toInt64)).toInt32)).toNatClampNeg).toInt64).toInt ≤ (((σ.1 245 0) - 1).toInt64).toInt) → Q (some (.int ((-20) - x5))) σ))) ∧ (¬ (lg_cmp (((x3).toInt64) + ((x5).toInt64)) ((σ.1 284 (x1).toNatClampNeg).toInt64)) < 0 → Q (some (.int (-12))) σ))))) : KX10_text_55 N σ Q x1 x3 x4 x5 := by
  refine ev_iload 4 dX10_text_55 rfl ?_
  refine ev_iload 3 dX10_text_57 rfl ?_
  refine ev_icmp_ge 135 dX10_text_59 (by decide) (fun c9 => ?_) (fun c9 => ?_)
  · replace h := h.1 c9
    refine ev_aload_n 0 dX10_text_135 rfl ?_
    refine ev_get G10 lay_245 (k := 4) rfl (Nat.le_of_ble_eq_true rfl) dX10_text_136 w_1230 ?_
    refine ev_bipush 8 dX10_text_139 (by decide) ?_
    refine ev_icmp_ne 147 dX10_text_141 (by decide) (fun c9 => ?_) (fun c9 => ?_)
    · replace h := h.2 c9
      refine ev_iconst 0 dX10_text_147 (by decide) ?_
      refine ev_istore (lv' := [(5, .int 0), (0, .ref 245), (1, .int x1), (3, .int x3), (4, .int x4)]) dX10_text_148 (Nat.le_of_ble_eq_true rfl) rfl ?_
      refine ev_sub [1, 2, 3, 4, 0] rfl ?_
      exact h
    · replace h := h.1 c9
      refine ev_bipush (-3) dX10_text_144 (by decide) ?_
      exact ev_iret rfl dX10_text_146 h
  · replace h := h.2 c9
    refine ev_iload_n 2 dX10_text_62 rfl ?_
    refine ev_i2l dX10_text_63 ?_
    refine ev_iload 4 dX10_text_64 rfl ?_
    refine ev_i2l dX10_text_66 ?_
    refine ev_ladd dX10_text_67 ?_
    refine ev_lstore (lv' := [(6, .long (((x3).toInt64) + ((x5).toInt64))), (0, .ref 245), (1, .int x1), (3, .int x3), (4, .int x4), (5, .int x5)]) dX10_text_68 (Nat.le_of_ble_eq_true rfl) rfl ?_
    refine ev_lload 0 dX10_text_70 rfl ?_
    refine ev_lconst 0 dX10_text_72 (by decide) ?_
    refine ev_lcmp dX10_text_73 ?_
    refine ev_if_lt 90 dX10_text_74 (by decide) (fun c9 => ?_) (fun c9 => ?_)
    · replace h := h.1 c9
      refine ev_bipush (-12) dX10_text_90 (by decide) ?_
      exact ev_iret rfl dX10_text_92 h
    · replace h := h.2 c9
      refine ev_lload 0 dX10_text_77 rfl ?_
      refine ev_aload_n 1 dX10_text_79 rfl ?_
      refine ev_getR (r := 284) G10 lay_245 (k := 61) rfl (Nat.le_of_ble_eq_true rfl) dX10_text_80 w_1287 ?_
      refine ev_iload_n 2 dX10_text_83 rfl ?_
      have hb84 := h.1
      replace h := h.2
      refine ev_iald lay_284 (Nat.le_of_ble_eq_true rfl) hb84 dX10_text_84 ?_
      refine ev_i2l dX10_text_85 ?_
      refine ev_lcmp dX10_text_86 ?_
      refine ev_if_lt 93 dX10_text_87 (by decide) (fun c9 => ?_) (fun c9 => ?_)
      · replace h := h.1 c9
        refine ev_aload_n 1 dX10_text_93 rfl ?_
        refine ev_getR (r := 285) G10 lay_245 (k := 62) rfl (Nat.le_of_ble_eq_true rfl) dX10_text_94 w_1288 ?_
        refine ev_bipush 60 dX10_text_97 (by decide) ?_
        refine ev_iload_n 2 dX10_text_99 rfl ?_
        refine ev_imul dX10_text_100 ?_
        refine ev_lload 0 dX10_text_101 rfl ?_
        refine ev_l2i dX10_text_103 ?_
        refine ev_iadd dX10_text_104 ?_
        have hb105 := h.1
        replace h := h.2
        refine ev_iald lay_285 (Nat.le_of_ble_eq_true rfl) hb105 dX10_text_105 ?_
        refine ev_i2l dX10_text_106 ?_
        refine ev_ldc2 (-2) dX10_text_107 w_1763 ?_
        refine ev_aload_n 1 dX10_text_110 rfl ?_
        refine ev_get G10 lay_245 (k := 0) rfl (Nat.le_of_ble_eq_true rfl) dX10_text_111 w_1226 ?_
        refine ev_iconst 1 dX10_text_114 (by decide) ?_
        refine ev_isub dX10_text_115 ?_
        refine ev_i2l dX10_text_116 ?_
        refine ev_callS (M' := mX10_in) [.long ((σ.1 285 ((60 * x1) + ((((x3).toInt64) + ((x5).toInt64)).toInt32)).toNatClampNeg).toInt64), .long (-2), .long (((σ.1 245 0) - 1).toInt64)] vX10_in dX10_text_117 w_1421 rfl rfl (Nat.le_of_ble_eq_true rfl) (C10_in (P := (-2) ≤ ((σ.1 285 ((60 * x1) + ((((x3).toInt64) + ((x5).toInt64)).toInt32)).toNatClampNeg).toInt64).toInt ∧ ((σ.1 285 ((60 * x1) + ((((x3).toInt64) + ((x5).toInt64)).toInt32)).toNatClampNeg).toInt64).toInt ≤ (((σ.1 245 0) - 1).toInt64).toInt) (by (try simp only [i_l]); exact Iff.rfl) (Q := fun r9 s9 => σ = s9 ∧ ((r9 = some (.int 1) ∧ ((-2) ≤ ((σ.1 285 ((60 * x1) + ((((x3).toInt64) + ((x5).toInt64)).toInt32)).toNatClampNeg).toInt64).toInt ∧ ((σ.1 285 ((60 * x1) + ((((x3).toInt64) + ((x5).toInt64)).toInt32)).toNatClampNeg).toInt64).toInt ≤ (((σ.1 245 0) - 1).toInt64).toInt)) ∨ (r9 = some (.int 0) ∧ ¬ ((-2) ≤ ((σ.1 285 ((60 * x1) + ((((x3).toInt64) + ((x5).toInt64)).toInt32)).toNatClampNeg).toInt64).toInt ∧ ((σ.1 285 ((60 * x1) + ((((x3).toInt64) + ((x5).toInt64)).toInt32)).toNatClampNeg).toInt64).toInt ≤ (((σ.1 245 0) - 1).toInt64).toInt)))) ⟨fun c9 => ⟨rfl, Or.inl ⟨rfl, c9⟩⟩, fun c9 => ⟨rfl, Or.inr ⟨rfl, c9⟩⟩⟩) ?_
        rintro r9 s9 ⟨rfl, ⟨rfl, c9⟩ | ⟨rfl, c9⟩⟩
        · replace h := h.1 c9
          refine ev_if_ne 129 dX10_text_120 (by decide) (fun c9 => ?_) (fun c9 => ?_)
          · refine ev_iinc (lv' := [(5, .int (x5 + 1)), (6, .long (((x3).toInt64) + ((x5).toInt64))), (0, .ref 245), (1, .int x1), (3, .int x3), (4, .int x4)]) (x5 + 1) 5 dX10_text_129 rfl rfl (Nat.le_of_ble_eq_true rfl) rfl ?_
            refine ev_goto 55 dX10_text_132 (by decide) ?_
            refine ev_sub [2, 3, 4, 5, 0] rfl ?_
            exact h
          · exact absurd c9 (by decide)
        · replace h := h.2 c9
          refine ev_if_ne 129 dX10_text_120 (by decide) (fun c9 => ?_) (fun c9 => ?_)
          · exact absurd c9 (by decide)
          · refine ev_bipush (-20) dX10_text_123 (by decide) ?_
            refine ev_iload 5 dX10_text_125 rfl ?_
            refine ev_isub dX10_text_127 ?_
            exact ev_iret rfl dX10_text_128 h
      · replace h := h.2 c9
        refine ev_bipush (-12) dX10_text_90 (by decide) ?_
        exact ev_iret rfl dX10_text_92 h
theorem BX10_text_150 {N : Nat} {σ : Sg} {Q : Option Value → Sg → Prop} {x1 : Int32} {x3 : Int32} {x4 : Int32} {x5 : Int32} (h : (x4 ≤ x5 → vp_in (σ.1 245 4) 8 ∧ (Q (some (.int (((u1 (u1 σ 248 (σ.1 245 4).toNatClampNeg x4) 245 4 (((u1 σ 248 (σ.1 245 4).toNatClampNeg x4).1 245 4) + 1)).1 245 4) - 1))) (u1 (u1 σ 248 (σ.1 245 4).toNatClampNeg x4) 245 4 (((u1 σ 248 (σ.1 245 4).toNatClampNeg x4).1 245 4) + 1)))) ∧ (¬ x4 ≤ x5 → vp_in (((60 * x1) + x3) + x5) 240 ∧ (vp_in ((24 * (σ.1 245 4)) + x5) 192 ∧ (KX10_text_150 N (u1 σ 249 ((24 * (σ.1 245 4)) + x5).toNatClampNeg (σ.1 285 (((60 * x1) + x3) + x5).toNatClampNeg)) Q x1 x3 x4 (x5 + 1))))) : KX10_text_150 N σ Q x1 x3 x4 x5 := by
  refine ev_iload 4 dX10_text_150 rfl ?_
  refine ev_iload 3 dX10_text_152 rfl ?_
  refine ev_icmp_ge 192 dX10_text_154 (by decide) (fun c9 => ?_) (fun c9 => ?_)
  · replace h := h.1 c9
    refine ev_aload_n 0 dX10_text_192 rfl ?_
    refine ev_getR (r := 248) G10 lay_245 (k := 5) rfl (Nat.le_of_ble_eq_true rfl) dX10_text_193 w_1231 ?_
    refine ev_aload_n 0 dX10_text_196 rfl ?_
    refine ev_get G10 lay_245 (k := 4) rfl (Nat.le_of_ble_eq_true rfl) dX10_text_197 w_1230 ?_
    refine ev_iload 3 dX10_text_200 rfl ?_
    have hb202 := h.1
    replace h := h.2
    refine ev_iast lay_248 (Nat.le_of_ble_eq_true rfl) hb202 dX10_text_202 ?_
    refine ev_aload_n 0 dX10_text_203 rfl ?_
    refine ev_dup dX10_text_204 rfl ?_
    refine ev_get G10 lay_245 (k := 4) rfl (Nat.le_of_ble_eq_true rfl) dX10_text_205 w_1230 ?_
    refine ev_iconst 1 dX10_text_208 (by decide) ?_
    refine ev_iadd dX10_text_209 ?_
    refine ev_put G10 lay_245 (k := 4) rfl (Nat.le_of_ble_eq_true rfl) rfl (by decide +kernel) dX10_text_210 w_1230 ?_
    refine ev_aload_n 0 dX10_text_213 rfl ?_
    refine ev_get G10 lay_245 (k := 4) rfl (Nat.le_of_ble_eq_true rfl) dX10_text_214 w_1230 ?_
    refine ev_iconst 1 dX10_text_217 (by decide) ?_
    refine ev_isub dX10_text_218 ?_
    exact ev_iret rfl dX10_text_219 h
  · replace h := h.2 c9
    refine ev_aload_n 0 dX10_text_157 rfl ?_
    refine ev_getR (r := 249) G10 lay_245 (k := 6) rfl (Nat.le_of_ble_eq_true rfl) dX10_text_158 w_1232 ?_
    refine ev_bipush 24 dX10_text_161 (by decide) ?_
    refine ev_aload_n 0 dX10_text_163 rfl ?_
    refine ev_get G10 lay_245 (k := 4) rfl (Nat.le_of_ble_eq_true rfl) dX10_text_164 w_1230 ?_
    refine ev_imul dX10_text_167 ?_
    refine ev_iload 4 dX10_text_168 rfl ?_
    refine ev_iadd dX10_text_170 ?_
    refine ev_aload_n 0 dX10_text_171 rfl ?_
    refine ev_getR (r := 285) G10 lay_245 (k := 62) rfl (Nat.le_of_ble_eq_true rfl) dX10_text_172 w_1288 ?_
    refine ev_bipush 60 dX10_text_175 (by decide) ?_
    refine ev_iload_n 1 dX10_text_177 rfl ?_
    refine ev_imul dX10_text_178 ?_
    refine ev_iload_n 2 dX10_text_179 rfl ?_
    refine ev_iadd dX10_text_180 ?_
    refine ev_iload 4 dX10_text_181 rfl ?_
    refine ev_iadd dX10_text_183 ?_
    have hb184 := h.1
    replace h := h.2
    refine ev_iald lay_285 (Nat.le_of_ble_eq_true rfl) hb184 dX10_text_184 ?_
    have hb185 := h.1
    replace h := h.2
    refine ev_iast lay_249 (Nat.le_of_ble_eq_true rfl) hb185 dX10_text_185 ?_
    refine ev_iinc (lv' := [(5, .int (x5 + 1)), (0, .ref 245), (1, .int x1), (3, .int x3), (4, .int x4)]) (x5 + 1) 4 dX10_text_186 rfl rfl (Nat.le_of_ble_eq_true rfl) rfl ?_
    refine ev_goto 150 dX10_text_189 (by decide) ?_
    refine ev_sub [1, 2, 3, 4, 0] rfl ?_
    exact h
abbrev KX10_count_4 (N : Nat) (σ : Sg) (Q : Option Value → Sg → Prop) (x1 : Int32) (x2 : Int32) (x3 : Int32) : Prop := Ev (N + 2) mX10_count 4 [(0, .ref 245), (1, .int x1), (2, .int x2), (3, .int x3)] [] σ Q
theorem EX10_count {N : Nat} {σ : Sg} {Q : Option Value → Sg → Prop} {x1 : Int32} (h : KX10_count_4 N σ Q x1 0 0) : EvM (N + 2) mX10_count [.ref 245, .int x1] σ Q := by
  refine ev_entry rfl (Nat.le_of_ble_eq_true rfl) (lv := [(0, .ref 245), (1, .int x1)]) rfl ?_
  refine ev_iconst 0 dX10_count_0 (by decide) ?_
  refine ev_istore_n (lv' := [(2, .int 0), (0, .ref 245), (1, .int x1)]) dX10_count_1 (Nat.le_of_ble_eq_true rfl) rfl ?_
  refine ev_iconst 0 dX10_count_2 (by decide) ?_
  refine ev_istore_n (lv' := [(3, .int 0), (2, .int 0), (0, .ref 245), (1, .int x1)]) dX10_count_3 (Nat.le_of_ble_eq_true rfl) rfl ?_
  refine ev_sub [2, 3, 1, 0] rfl ?_
  exact h
theorem BX10_count_4 {N : Nat} {σ : Sg} {Q : Option Value → Sg → Prop} {x1 : Int32} {x2 : Int32} {x3 : Int32} (h : ((σ.1 245 52) ≤ x3 → (x1 = 0 → Q (some (.int (σ.1 245 0))) σ) ∧ (x1 = 1 → Q (some (.int (σ.1 245 4))) σ) ∧ (x1 = 2 → EvM (N + 1) mX10_findSigns [.ref 245, .int (σ.1 245 2)] σ (fun r9 σ1 => r9 = none ∧ (EvM (N + 1) mX10_allSigns [.ref 245] σ1 (fun r9 σ2 => ∃ v2, r9 = some (.int v2) ∧ (Q (some (.int v2)) σ2))))) ∧ (x1 = 3 → Q (some (.int (σ.1 245 20))) σ) ∧ (x1 = 4 → Q (some (.int (σ.1 245 27))) σ) ∧ (x1 = 5 → Q (some (.int (σ.1 245 30))) σ) ∧ (x1 = 6 → Q (some (.int (σ.1 245 52))) σ) ∧ (x1 = 7 → Q (some (.int x2)) σ) ∧ (x1 = 8 → Q (some (.int (σ.1 245 58))) σ) ∧ (x1 = 9 → Q (some (.int (σ.1 245 45))) σ) ∧ (x1 = 10 → vp_in 0 4 ∧ (((σ.1 283 (0 : Int32).toNatClampNeg) = (-4) → Q (some (.int (-4))) σ) ∧ (¬ (σ.1 283 (0 : Int32).toNatClampNeg) = (-4) → vp_in 0 4 ∧ (Q (some (.int (σ.1 284 (0 : Int32).toNatClampNeg))) σ)))) ∧ (¬ x1 = 0 → ¬ x1 = 1 → ¬ x1 = 2 → ¬ x1 = 3 → ¬ x1 = 4 → ¬ x1 = 5 → ¬ x1 = 6 → ¬ x1 = 7 → ¬ x1 = 8 → ¬ x1 = 9 → ¬ x1 = 10 → Q (some (.int (-1))) σ)) ∧ (¬ (σ.1 245 52) ≤ x3 → vp_in x3 20 ∧ (((σ.1 280 (x3).toNatClampNeg) = (-4) → KX10_count_4 N σ Q x1 (x2 + 0) (x3 + 1)) ∧ (¬ (σ.1 280 (x3).toNatClampNeg) = (-4) → KX10_count_4 N σ Q x1 (x2 + 1) (x3 + 1))))) : KX10_count_4 N σ Q x1 x2 x3 := by
  refine ev_iload_n 3 dX10_count_4 rfl ?_
  refine ev_aload_n 0 dX10_count_5 rfl ?_
  refine ev_get G10 lay_245 (k := 52) rfl (Nat.le_of_ble_eq_true rfl) dX10_count_6 w_1278 ?_
  refine ev_icmp_ge 37 dX10_count_9 (by decide) (fun c9 => ?_) (fun c9 => ?_)
  · replace h := h.1 c9
    refine ev_iload_n 1 dX10_count_37 rfl ?_
    by_cases c0 : x1 = 0
    · replace h := h.1 c0
      refine ev_tableIn (off := (58)) 0 96 dX10_count_38 c0 (by decide) (by decide) rfl (by decide) ?_
      refine ev_aload_n 0 dX10_count_96 rfl ?_
      refine ev_get G10 lay_245 (k := 0) rfl (Nat.le_of_ble_eq_true rfl) dX10_count_97 w_1226 ?_
      exact ev_iret rfl dX10_count_100 h
    by_cases c1 : x1 = 1
    · replace h := h.2.1 c1
      refine ev_tableIn (off := (63)) 1 101 dX10_count_38 c1 (by decide) (by decide) rfl (by decide) ?_
      refine ev_aload_n 0 dX10_count_101 rfl ?_
      refine ev_get G10 lay_245 (k := 4) rfl (Nat.le_of_ble_eq_true rfl) dX10_count_102 w_1230 ?_
      exact ev_iret rfl dX10_count_105 h
    by_cases c2 : x1 = 2
    · replace h := h.2.2.1 c2
      refine ev_tableIn (off := (68)) 2 106 dX10_count_38 c2 (by decide) (by decide) rfl (by decide) ?_
      refine ev_aload_n 0 dX10_count_106 rfl ?_
      refine ev_aload_n 0 dX10_count_107 rfl ?_
      refine ev_get G10 lay_245 (k := 2) rfl (Nat.le_of_ble_eq_true rfl) dX10_count_108 w_1228 ?_
      refine ev_callV (M' := mX10_findSigns) [.int (σ.1 245 2)] vX10_findSigns G10 lay_245 dX10_count_111 w_1433 rfl rfl (Nat.le_of_ble_eq_true rfl) h ?_
      rintro r9 σ1 ⟨rfl, h⟩
      refine ev_aload_n 0 dX10_count_114 rfl ?_
      refine ev_callV (M' := mX10_allSigns) [] vX10_allSigns G10 lay_245 dX10_count_115 w_1500 rfl rfl (Nat.le_of_ble_eq_true rfl) h ?_
      rintro r9 σ2 ⟨v2, rfl, h⟩
      exact ev_iret rfl dX10_count_118 h
    by_cases c3 : x1 = 3
    · replace h := h.2.2.2.1 c3
      refine ev_tableIn (off := (81)) 3 119 dX10_count_38 c3 (by decide) (by decide) rfl (by decide) ?_
      refine ev_aload_n 0 dX10_count_119 rfl ?_
      refine ev_get G10 lay_245 (k := 20) rfl (Nat.le_of_ble_eq_true rfl) dX10_count_120 w_1246 ?_
      exact ev_iret rfl dX10_count_123 h
    by_cases c4 : x1 = 4
    · replace h := h.2.2.2.2.1 c4
      refine ev_tableIn (off := (86)) 4 124 dX10_count_38 c4 (by decide) (by decide) rfl (by decide) ?_
      refine ev_aload_n 0 dX10_count_124 rfl ?_
      refine ev_get G10 lay_245 (k := 27) rfl (Nat.le_of_ble_eq_true rfl) dX10_count_125 w_1253 ?_
      exact ev_iret rfl dX10_count_128 h
    by_cases c5 : x1 = 5
    · replace h := h.2.2.2.2.2.1 c5
      refine ev_tableIn (off := (91)) 5 129 dX10_count_38 c5 (by decide) (by decide) rfl (by decide) ?_
      refine ev_aload_n 0 dX10_count_129 rfl ?_
      refine ev_get G10 lay_245 (k := 30) rfl (Nat.le_of_ble_eq_true rfl) dX10_count_130 w_1256 ?_
      exact ev_iret rfl dX10_count_133 h
    by_cases c6 : x1 = 6
    · replace h := h.2.2.2.2.2.2.1 c6
      refine ev_tableIn (off := (96)) 6 134 dX10_count_38 c6 (by decide) (by decide) rfl (by decide) ?_
      refine ev_aload_n 0 dX10_count_134 rfl ?_
      refine ev_get G10 lay_245 (k := 52) rfl (Nat.le_of_ble_eq_true rfl) dX10_count_135 w_1278 ?_
      exact ev_iret rfl dX10_count_138 h
    by_cases c7 : x1 = 7
    · replace h := h.2.2.2.2.2.2.2.1 c7
      refine ev_tableIn (off := (101)) 7 139 dX10_count_38 c7 (by decide) (by decide) rfl (by decide) ?_
      refine ev_iload_n 2 dX10_count_139 rfl ?_
      exact ev_iret rfl dX10_count_140 h
    by_cases c8 : x1 = 8
    · replace h := h.2.2.2.2.2.2.2.2.1 c8
      refine ev_tableIn (off := (103)) 8 141 dX10_count_38 c8 (by decide) (by decide) rfl (by decide) ?_
      refine ev_aload_n 0 dX10_count_141 rfl ?_
      refine ev_get G10 lay_245 (k := 58) rfl (Nat.le_of_ble_eq_true rfl) dX10_count_142 w_1284 ?_
      exact ev_iret rfl dX10_count_145 h
    by_cases c9 : x1 = 9
    · replace h := h.2.2.2.2.2.2.2.2.2.1 c9
      refine ev_tableIn (off := (108)) 9 146 dX10_count_38 c9 (by decide) (by decide) rfl (by decide) ?_
      refine ev_aload_n 0 dX10_count_146 rfl ?_
      refine ev_get G10 lay_245 (k := 45) rfl (Nat.le_of_ble_eq_true rfl) dX10_count_147 w_1271 ?_
      exact ev_iret rfl dX10_count_150 h
    by_cases c10 : x1 = 10
    · replace h := h.2.2.2.2.2.2.2.2.2.2.1 c10
      refine ev_tableIn (off := (113)) 10 151 dX10_count_38 c10 (by decide) (by decide) rfl (by decide) ?_
      refine ev_aload_n 0 dX10_count_151 rfl ?_
      refine ev_getR (r := 283) G10 lay_245 (k := 60) rfl (Nat.le_of_ble_eq_true rfl) dX10_count_152 w_1286 ?_
      refine ev_iconst 0 dX10_count_155 (by decide) ?_
      have hb156 := h.1
      replace h := h.2
      refine ev_iald lay_283 (Nat.le_of_ble_eq_true rfl) hb156 dX10_count_156 ?_
      refine ev_bipush (-4) dX10_count_157 (by decide) ?_
      refine ev_icmp_ne 167 dX10_count_159 (by decide) (fun c9 => ?_) (fun c9 => ?_)
      · replace h := h.2 c9
        refine ev_aload_n 0 dX10_count_167 rfl ?_
        refine ev_getR (r := 284) G10 lay_245 (k := 61) rfl (Nat.le_of_ble_eq_true rfl) dX10_count_168 w_1287 ?_
        refine ev_iconst 0 dX10_count_171 (by decide) ?_
        have hb172 := h.1
        replace h := h.2
        refine ev_iald lay_284 (Nat.le_of_ble_eq_true rfl) hb172 dX10_count_172 ?_
        exact ev_iret rfl dX10_count_173 h
      · replace h := h.1 c9
        refine ev_bipush (-4) dX10_count_162 (by decide) ?_
        refine ev_goto 173 dX10_count_164 (by decide) ?_
        exact ev_iret rfl dX10_count_173 h
    replace h := h.2.2.2.2.2.2.2.2.2.2.2 c0 c1 c2 c3 c4 c5 c6 c7 c8 c9 c10
    refine ev_tableOut 174 dX10_count_38 ?_ (by decide) ?_
    · have hn : ∀ k : Int32, ¬ x1 = k → ¬ (x1).toInt = k.toInt := fun k q e => q (Int32.toInt_inj.mp e)
      have e0 := hn _ c0
      have e1 := hn _ c1
      have e2 := hn _ c2
      have e3 := hn _ c3
      have e4 := hn _ c4
      have e5 := hn _ c5
      have e6 := hn _ c6
      have e7 := hn _ c7
      have e8 := hn _ c8
      have e9 := hn _ c9
      have e10 := hn _ c10
      rw [show (0 : Int32).toInt = 0 from by decide] at e0; rw [show (1 : Int32).toInt = 1 from by decide] at e1; rw [show (2 : Int32).toInt = 2 from by decide] at e2; rw [show (3 : Int32).toInt = 3 from by decide] at e3; rw [show (4 : Int32).toInt = 4 from by decide] at e4; rw [show (5 : Int32).toInt = 5 from by decide] at e5; rw [show (6 : Int32).toInt = 6 from by decide] at e6; rw [show (7 : Int32).toInt = 7 from by decide] at e7; rw [show (8 : Int32).toInt = 8 from by decide] at e8; rw [show (9 : Int32).toInt = 9 from by decide] at e9; rw [show (10 : Int32).toInt = 10 from by decide] at e10
      omega
    · refine ev_iconst (-1) dX10_count_174 (by decide) ?_
      exact ev_iret rfl dX10_count_175 h
  · replace h := h.2 c9
    refine ev_iload_n 2 dX10_count_12 rfl ?_
    refine ev_aload_n 0 dX10_count_13 rfl ?_
    refine ev_getR (r := 280) G10 lay_245 (k := 56) rfl (Nat.le_of_ble_eq_true rfl) dX10_count_14 w_1282 ?_
    refine ev_iload_n 3 dX10_count_17 rfl ?_
    have hb18 := h.1
    replace h := h.2
    refine ev_iald lay_280 (Nat.le_of_ble_eq_true rfl) hb18 dX10_count_18 ?_
    refine ev_bipush (-4) dX10_count_19 (by decide) ?_
    refine ev_icmp_ne 28 dX10_count_21 (by decide) (fun c9 => ?_) (fun c9 => ?_)
    · replace h := h.2 c9
      refine ev_iconst 1 dX10_count_28 (by decide) ?_
      refine ev_iadd dX10_count_29 ?_
      refine ev_istore_n (lv' := [(2, .int (x2 + 1)), (0, .ref 245), (1, .int x1), (3, .int x3)]) dX10_count_30 (Nat.le_of_ble_eq_true rfl) rfl ?_
      refine ev_iinc (lv' := [(3, .int (x3 + 1)), (2, .int (x2 + 1)), (0, .ref 245), (1, .int x1)]) (x3 + 1) 3 dX10_count_31 rfl rfl (Nat.le_of_ble_eq_true rfl) rfl ?_
      refine ev_goto 4 dX10_count_34 (by decide) ?_
      refine ev_sub [2, 3, 1, 0] rfl ?_
      exact h
    · replace h := h.1 c9
      refine ev_iconst 0 dX10_count_24 (by decide) ?_
      refine ev_goto 29 dX10_count_25 (by decide) ?_
      refine ev_iadd dX10_count_29 ?_
      refine ev_istore_n (lv' := [(2, .int (x2 + 0)), (0, .ref 245), (1, .int x1), (3, .int x3)]) dX10_count_30 (Nat.le_of_ble_eq_true rfl) rfl ?_
      refine ev_iinc (lv' := [(3, .int (x3 + 1)), (2, .int (x2 + 0)), (0, .ref 245), (1, .int x1)]) (x3 + 1) 3 dX10_count_31 rfl rfl (Nat.le_of_ble_eq_true rfl) rfl ?_
      refine ev_goto 4 dX10_count_34 (by decide) ?_
      refine ev_sub [2, 3, 1, 0] rfl ?_
      exact h
