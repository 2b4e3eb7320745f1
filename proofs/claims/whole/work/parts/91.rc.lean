/-! ===== readOn, readClaim, take once more, printed by gen_rc.py ===== -/
abbrev LX10_readOn_4 (N : Nat) (σ : Sg) (Q : Option Value → Sg → Prop) (x1 : Int32) (x2 : Int32) (x3 : Int32) : Prop := Ev (N + 4) mX10_readOn 4 [(0, .ref 245), (1, .int x1), (2, .int x2), (3, .int x3)] [] σ Q
abbrev LX10_readOn_19 (N : Nat) (σ : Sg) (Q : Option Value → Sg → Prop) (x1 : Int32) (x2 : Int32) : Prop := Ev (N + 4) mX10_readOn 19 [(0, .ref 245), (1, .int x1), (2, .int x2)] [] σ Q
abbrev LX10_readOn_37 (N : Nat) (σ : Sg) (Q : Option Value → Sg → Prop) (x1 : Int32) (x2 : Int32) : Prop := Ev (N + 4) mX10_readOn 37 [(0, .ref 245), (1, .int x1), (2, .int x2)] [] σ Q
abbrev LX10_readOn_87 (N : Nat) (σ : Sg) (Q : Option Value → Sg → Prop) (x1 : Int32) (x2 : Int32) : Prop := Ev (N + 4) mX10_readOn 87 [(0, .ref 245), (1, .int x1), (2, .int x2)] [] σ Q
abbrev LX10_readOn_107 (N : Nat) (σ : Sg) (Q : Option Value → Sg → Prop) (x1 : Int32) (x2 : Int32) : Prop := Ev (N + 4) mX10_readOn 107 [(0, .ref 245), (1, .int x1), (2, .int x2)] [] σ Q
abbrev LX10_readOn_111 (N : Nat) (σ : Sg) (Q : Option Value → Sg → Prop) (x1 : Int32) (x2 : Int32) : Prop := Ev (N + 4) mX10_readOn 111 [(0, .ref 245), (1, .int x1), (2, .int x2)] [] σ Q
theorem FX10_readOn {N : Nat} {σ : Sg} {Q : Option Value → Sg → Prop} {x1 : Int32} (h : LX10_readOn_4 N σ Q x1 0 1) : EvM (N + 4) mX10_readOn [.ref 245, .int x1] σ Q := by
  refine ev_entry rfl (Nat.le_of_ble_eq_true rfl) (lv := [(0, .ref 245), (1, .int x1)]) rfl ?_
  refine ev_iconst 0 dX10_readOn_0 (by decide) ?_
  refine ev_istore_n (lv' := [(2, .int 0), (0, .ref 245), (1, .int x1)]) dX10_readOn_1 (Nat.le_of_ble_eq_true rfl) rfl ?_
  refine ev_iconst 1 dX10_readOn_2 (by decide) ?_
  refine ev_istore_n (lv' := [(3, .int 1), (2, .int 0), (0, .ref 245), (1, .int x1)]) dX10_readOn_3 (Nat.le_of_ble_eq_true rfl) rfl ?_
  refine ev_sub [2, 3, 1, 0] rfl ?_
  exact h
theorem DX10_readOn_4 {N : Nat} {σ : Sg} {Q : Option Value → Sg → Prop} {x1 : Int32} {x2 : Int32} {x3 : Int32} (h : (x3 = 0 → Q (some (.int x2)) σ) ∧ (¬ x3 = 0 → ((σ.1 245 50) = 0 → EvM (N + 3) mX10_next [.ref 245] σ (fun r9 σ1 => r9 = none ∧ (LX10_readOn_19 N σ1 Q x1 x2))) ∧ (¬ (σ.1 245 50) = 0 → Q (some (.int x2)) σ))) : LX10_readOn_4 N σ Q x1 x2 x3 := by
  refine ev_iload_n 3 dX10_readOn_4 rfl ?_
  refine ev_if_eq 128 dX10_readOn_5 (by decide) (fun c9 => ?_) (fun c9 => ?_)
  · replace h := h.1 c9
    refine ev_iload_n 2 dX10_readOn_128 rfl ?_
    exact ev_iret rfl dX10_readOn_129 h
  · replace h := h.2 c9
    refine ev_aload_n 0 dX10_readOn_8 rfl ?_
    refine ev_get G10 lay_245 (k := 50) rfl (Nat.le_of_ble_eq_true rfl) dX10_readOn_9 w_1276 ?_
    refine ev_if_ne 128 dX10_readOn_12 (by decide) (fun c9 => ?_) (fun c9 => ?_)
    · replace h := h.2 c9
      refine ev_iload_n 2 dX10_readOn_128 rfl ?_
      exact ev_iret rfl dX10_readOn_129 h
    · replace h := h.1 c9
      refine ev_aload_n 0 dX10_readOn_15 rfl ?_
      refine ev_callV (M' := mX10_next) [] vX10_next G10 lay_245 dX10_readOn_16 w_1682 rfl rfl (Nat.le_of_ble_eq_true rfl) h ?_
      rintro r9 σ1 ⟨rfl, h⟩
      refine ev_sub [0, 1, 2] rfl ?_
      exact h
theorem DX10_readOn_19 {N : Nat} {σ : Sg} {Q : Option Value → Sg → Prop} {x1 : Int32} {x2 : Int32} (h : ((σ.1 245 48) = 2 → EvM (N + 3) mX10_wants [.ref 245, .int 1, .int 2] σ (fun r9 σ3 => r9 = none ∧ (LX10_readOn_37 N σ3 Q x1 x2))) ∧ (¬ (σ.1 245 48) = 2 → EvM (N + 3) mX10_wants [.ref 245, .int 0, .int 2] σ (fun r9 σ2 => r9 = none ∧ (LX10_readOn_37 N σ2 Q x1 x2)))) : LX10_readOn_19 N σ Q x1 x2 := by
  refine ev_aload_n 0 dX10_readOn_19 rfl ?_
  refine ev_aload_n 0 dX10_readOn_20 rfl ?_
  refine ev_get G10 lay_245 (k := 48) rfl (Nat.le_of_ble_eq_true rfl) dX10_readOn_21 w_1274 ?_
  refine ev_iconst 2 dX10_readOn_24 (by decide) ?_
  refine ev_icmp_ne 32 dX10_readOn_25 (by decide) (fun c9 => ?_) (fun c9 => ?_)
  · replace h := h.2 c9
    refine ev_iconst 0 dX10_readOn_32 (by decide) ?_
    refine ev_iconst 2 dX10_readOn_33 (by decide) ?_
    refine ev_callV (M' := mX10_wants) [.int 0, .int 2] vX10_wants G10 lay_245 dX10_readOn_34 w_1700 rfl rfl (Nat.le_of_ble_eq_true rfl) h ?_
    rintro r9 σ2 ⟨rfl, h⟩
    refine ev_sub [0, 1, 2] rfl ?_
    exact h
  · replace h := h.1 c9
    refine ev_iconst 1 dX10_readOn_28 (by decide) ?_
    refine ev_goto 33 dX10_readOn_29 (by decide) ?_
    refine ev_iconst 2 dX10_readOn_33 (by decide) ?_
    refine ev_callV (M' := mX10_wants) [.int 1, .int 2] vX10_wants G10 lay_245 dX10_readOn_34 w_1700 rfl rfl (Nat.le_of_ble_eq_true rfl) h ?_
    rintro r9 σ3 ⟨rfl, h⟩
    refine ev_sub [0, 1, 2] rfl ?_
    exact h
theorem DX10_readOn_37 {N : Nat} {σ : Sg} {Q : Option Value → Sg → Prop} {x1 : Int32} {x2 : Int32} (h : ((σ.1 245 50) = 0 → (x1 ≤ (σ.1 245 49) → EvM (N + 3) mX10_wants [.ref 245, .int 0, .int 3] σ (fun r9 σ4 => r9 = none ∧ (LX10_readOn_87 N σ4 Q x1 x2))) ∧ (¬ x1 ≤ (σ.1 245 49) → vp_in (σ.1 245 49) 20 ∧ (((σ.1 280 (σ.1 245 49).toNatClampNeg) = (-4) → (((x2 >>> ((σ.1 245 49) &&& 31)) &&& 1) = 0 → EvM (N + 3) mX10_wants [.ref 245, .int 1, .int 3] σ (fun r9 σ7 => r9 = none ∧ (LX10_readOn_87 N σ7 Q x1 x2))) ∧ (¬ ((x2 >>> ((σ.1 245 49) &&& 31)) &&& 1) = 0 → EvM (N + 3) mX10_wants [.ref 245, .int 0, .int 3] σ (fun r9 σ6 => r9 = none ∧ (LX10_readOn_87 N σ6 Q x1 x2)))) ∧ (¬ (σ.1 280 (σ.1 245 49).toNatClampNeg) = (-4) → EvM (N + 3) mX10_wants [.ref 245, .int 0, .int 3] σ (fun r9 σ5 => r9 = none ∧ (LX10_readOn_87 N σ5 Q x1 x2)))))) ∧ (¬ (σ.1 245 50) = 0 → LX10_readOn_87 N σ Q x1 x2)) : LX10_readOn_37 N σ Q x1 x2 := by
  refine ev_aload_n 0 dX10_readOn_37 rfl ?_
  refine ev_get G10 lay_245 (k := 50) rfl (Nat.le_of_ble_eq_true rfl) dX10_readOn_38 w_1276 ?_
  refine ev_if_ne 87 dX10_readOn_41 (by decide) (fun c9 => ?_) (fun c9 => ?_)
  · replace h := h.2 c9
    refine ev_sub [0, 1, 2] rfl ?_
    exact h
  · replace h := h.1 c9
    refine ev_aload_n 0 dX10_readOn_44 rfl ?_
    refine ev_aload_n 0 dX10_readOn_45 rfl ?_
    refine ev_get G10 lay_245 (k := 49) rfl (Nat.le_of_ble_eq_true rfl) dX10_readOn_46 w_1275 ?_
    refine ev_iload_n 1 dX10_readOn_49 rfl ?_
    refine ev_icmp_ge 82 dX10_readOn_50 (by decide) (fun c9 => ?_) (fun c9 => ?_)
    · replace h := h.1 c9
      refine ev_iconst 0 dX10_readOn_82 (by decide) ?_
      refine ev_iconst 3 dX10_readOn_83 (by decide) ?_
      refine ev_callV (M' := mX10_wants) [.int 0, .int 3] vX10_wants G10 lay_245 dX10_readOn_84 w_1700 rfl rfl (Nat.le_of_ble_eq_true rfl) h ?_
      rintro r9 σ4 ⟨rfl, h⟩
      refine ev_sub [0, 1, 2] rfl ?_
      exact h
    · replace h := h.2 c9
      refine ev_aload_n 0 dX10_readOn_53 rfl ?_
      refine ev_getR (r := 280) G10 lay_245 (k := 56) rfl (Nat.le_of_ble_eq_true rfl) dX10_readOn_54 w_1282 ?_
      refine ev_aload_n 0 dX10_readOn_57 rfl ?_
      refine ev_get G10 lay_245 (k := 49) rfl (Nat.le_of_ble_eq_true rfl) dX10_readOn_58 w_1275 ?_
      have hb61 := h.1
      replace h := h.2
      refine ev_iald lay_280 (Nat.le_of_ble_eq_true rfl) hb61 dX10_readOn_61 ?_
      refine ev_bipush (-4) dX10_readOn_62 (by decide) ?_
      refine ev_icmp_ne 82 dX10_readOn_64 (by decide) (fun c9 => ?_) (fun c9 => ?_)
      · replace h := h.2 c9
        refine ev_iconst 0 dX10_readOn_82 (by decide) ?_
        refine ev_iconst 3 dX10_readOn_83 (by decide) ?_
        refine ev_callV (M' := mX10_wants) [.int 0, .int 3] vX10_wants G10 lay_245 dX10_readOn_84 w_1700 rfl rfl (Nat.le_of_ble_eq_true rfl) h ?_
        rintro r9 σ5 ⟨rfl, h⟩
        refine ev_sub [0, 1, 2] rfl ?_
        exact h
      · replace h := h.1 c9
        refine ev_iload_n 2 dX10_readOn_67 rfl ?_
        refine ev_aload_n 0 dX10_readOn_68 rfl ?_
        refine ev_get G10 lay_245 (k := 49) rfl (Nat.le_of_ble_eq_true rfl) dX10_readOn_69 w_1275 ?_
        refine ev_ishr dX10_readOn_72 ?_
        refine ev_iconst 1 dX10_readOn_73 (by decide) ?_
        refine ev_iand dX10_readOn_74 ?_
        refine ev_if_ne 82 dX10_readOn_75 (by decide) (fun c9 => ?_) (fun c9 => ?_)
        · replace h := h.2 c9
          refine ev_iconst 0 dX10_readOn_82 (by decide) ?_
          refine ev_iconst 3 dX10_readOn_83 (by decide) ?_
          refine ev_callV (M' := mX10_wants) [.int 0, .int 3] vX10_wants G10 lay_245 dX10_readOn_84 w_1700 rfl rfl (Nat.le_of_ble_eq_true rfl) h ?_
          rintro r9 σ6 ⟨rfl, h⟩
          refine ev_sub [0, 1, 2] rfl ?_
          exact h
        · replace h := h.1 c9
          refine ev_iconst 1 dX10_readOn_78 (by decide) ?_
          refine ev_goto 83 dX10_readOn_79 (by decide) ?_
          refine ev_iconst 3 dX10_readOn_83 (by decide) ?_
          refine ev_callV (M' := mX10_wants) [.int 1, .int 3] vX10_wants G10 lay_245 dX10_readOn_84 w_1700 rfl rfl (Nat.le_of_ble_eq_true rfl) h ?_
          rintro r9 σ7 ⟨rfl, h⟩
          refine ev_sub [0, 1, 2] rfl ?_
          exact h
theorem DX10_readOn_87 {N : Nat} {σ : Sg} {Q : Option Value → Sg → Prop} {x1 : Int32} {x2 : Int32} (h : ((σ.1 245 50) = 0 → LX10_readOn_107 N σ Q x1 (x2 ||| (1 <<< ((σ.1 245 49) &&& 31)))) ∧ (¬ (σ.1 245 50) = 0 → LX10_readOn_107 N σ Q x1 (x2 ||| 0))) : LX10_readOn_87 N σ Q x1 x2 := by
  refine ev_iload_n 2 dX10_readOn_87 rfl ?_
  refine ev_aload_n 0 dX10_readOn_88 rfl ?_
  refine ev_get G10 lay_245 (k := 50) rfl (Nat.le_of_ble_eq_true rfl) dX10_readOn_89 w_1276 ?_
  refine ev_if_ne 104 dX10_readOn_92 (by decide) (fun c9 => ?_) (fun c9 => ?_)
  · replace h := h.2 c9
    refine ev_iconst 0 dX10_readOn_104 (by decide) ?_
    refine ev_ior dX10_readOn_105 ?_
    refine ev_istore_n (lv' := [(2, .int (x2 ||| 0)), (0, .ref 245), (1, .int x1)]) dX10_readOn_106 (Nat.le_of_ble_eq_true rfl) rfl ?_
    refine ev_sub [1, 2, 0] rfl ?_
    exact h
  · replace h := h.1 c9
    refine ev_iconst 1 dX10_readOn_95 (by decide) ?_
    refine ev_aload_n 0 dX10_readOn_96 rfl ?_
    refine ev_get G10 lay_245 (k := 49) rfl (Nat.le_of_ble_eq_true rfl) dX10_readOn_97 w_1275 ?_
    refine ev_ishl dX10_readOn_100 ?_
    refine ev_goto 105 dX10_readOn_101 (by decide) ?_
    refine ev_ior dX10_readOn_105 ?_
    refine ev_istore_n (lv' := [(2, .int (x2 ||| (1 <<< ((σ.1 245 49) &&& 31)))), (0, .ref 245), (1, .int x1)]) dX10_readOn_106 (Nat.le_of_ble_eq_true rfl) rfl ?_
    refine ev_sub [1, 2, 0] rfl ?_
    exact h
theorem DX10_readOn_107 {N : Nat} {σ : Sg} {Q : Option Value → Sg → Prop} {x1 : Int32} {x2 : Int32} (h : EvM (N + 3) mX10_next [.ref 245] σ (fun r9 σ8 => r9 = none ∧ (LX10_readOn_111 N σ8 Q x1 x2))) : LX10_readOn_107 N σ Q x1 x2 := by
  refine ev_aload_n 0 dX10_readOn_107 rfl ?_
  refine ev_callV (M' := mX10_next) [] vX10_next G10 lay_245 dX10_readOn_108 w_1682 rfl rfl (Nat.le_of_ble_eq_true rfl) h ?_
  rintro r9 σ8 ⟨rfl, h⟩
  refine ev_sub [0, 1, 2] rfl ?_
  exact h
theorem DX10_readOn_111 {N : Nat} {σ : Sg} {Q : Option Value → Sg → Prop} {x1 : Int32} {x2 : Int32} (h : ((σ.1 245 48) = 4 → LX10_readOn_4 N σ Q x1 x2 1) ∧ (¬ (σ.1 245 48) = 4 → LX10_readOn_4 N σ Q x1 x2 0)) : LX10_readOn_111 N σ Q x1 x2 := by
  refine ev_aload_n 0 dX10_readOn_111 rfl ?_
  refine ev_get G10 lay_245 (k := 48) rfl (Nat.le_of_ble_eq_true rfl) dX10_readOn_112 w_1274 ?_
  refine ev_iconst 4 dX10_readOn_115 (by decide) ?_
  refine ev_icmp_ne 123 dX10_readOn_116 (by decide) (fun c9 => ?_) (fun c9 => ?_)
  · replace h := h.2 c9
    refine ev_iconst 0 dX10_readOn_123 (by decide) ?_
    refine ev_istore_n (lv' := [(3, .int 0), (0, .ref 245), (1, .int x1), (2, .int x2)]) dX10_readOn_124 (Nat.le_of_ble_eq_true rfl) rfl ?_
    refine ev_goto 4 dX10_readOn_125 (by decide) ?_
    refine ev_sub [1, 2, 3, 0] rfl ?_
    exact h
  · replace h := h.1 c9
    refine ev_iconst 1 dX10_readOn_119 (by decide) ?_
    refine ev_goto 124 dX10_readOn_120 (by decide) ?_
    refine ev_istore_n (lv' := [(3, .int 1), (0, .ref 245), (1, .int x1), (2, .int x2)]) dX10_readOn_124 (Nat.le_of_ble_eq_true rfl) rfl ?_
    refine ev_goto 4 dX10_readOn_125 (by decide) ?_
    refine ev_sub [1, 2, 3, 0] rfl ?_
    exact h
abbrev LX10_readClaim_26 (N : Nat) (σ : Sg) (Q : Option Value → Sg → Prop) (x1 : Int32) : Prop := Ev (N + 5) mX10_readClaim 26 [(0, .ref 245), (1, .int x1)] [] σ Q
abbrev LX10_readClaim_42 (N : Nat) (σ : Sg) (Q : Option Value → Sg → Prop) (x1 : Int32) : Prop := Ev (N + 5) mX10_readClaim 42 [(0, .ref 245), (1, .int x1)] [] σ Q
abbrev LX10_readClaim_51 (N : Nat) (σ : Sg) (Q : Option Value → Sg → Prop) (x1 : Int32) (x2 : Int32) : Prop := Ev (N + 5) mX10_readClaim 51 [(0, .ref 245), (1, .int x1), (2, .int x2)] [] σ Q
abbrev LX10_readClaim_69 (N : Nat) (σ : Sg) (Q : Option Value → Sg → Prop) (x1 : Int32) (x2 : Int32) : Prop := Ev (N + 5) mX10_readClaim 69 [(0, .ref 245), (1, .int x1), (2, .int x2)] [] σ Q
abbrev LX10_readClaim_77 (N : Nat) (σ : Sg) (Q : Option Value → Sg → Prop) (x1 : Int32) (x2 : Int32) (x3 : Int32) (x4 : Int32) : Prop := Ev (N + 5) mX10_readClaim 77 [(0, .ref 245), (1, .int x1), (2, .int x2), (3, .int x3), (4, .int x4)] [] σ Q
abbrev LX10_readClaim_134 (N : Nat) (σ : Sg) (Q : Option Value → Sg → Prop) (x1 : Int32) (x2 : Int32) (x3 : Int32) (x4 : Int32) : Prop := Ev (N + 5) mX10_readClaim 134 [(0, .ref 245), (1, .int x1), (2, .int x2), (3, .int x3), (4, .int x4)] [] σ Q
abbrev LX10_readClaim_140 (N : Nat) (σ : Sg) (Q : Option Value → Sg → Prop) (x1 : Int32) (x2 : Int32) (x3 : Int32) : Prop := Ev (N + 5) mX10_readClaim 140 [(0, .ref 245), (1, .int x1), (2, .int x2), (3, .int x3)] [] σ Q
abbrev LX10_readClaim_144 (N : Nat) (σ : Sg) (Q : Option Value → Sg → Prop) (x1 : Int32) (x2 : Int32) (x3 : Int32) : Prop := Ev (N + 5) mX10_readClaim 144 [(0, .ref 245), (1, .int x1), (2, .int x2), (3, .int x3)] [] σ Q
abbrev LX10_readClaim_177 (N : Nat) (σ : Sg) (Q : Option Value → Sg → Prop) (x1 : Int32) (x2 : Int32) (x3 : Int32) (x4 : Int32) : Prop := Ev (N + 5) mX10_readClaim 177 [(0, .ref 245), (1, .int x1), (2, .int x2), (3, .int x3), (4, .int x4)] [] σ Q
abbrev LX10_readClaim_202 (N : Nat) (σ : Sg) (Q : Option Value → Sg → Prop) (x1 : Int32) (x2 : Int32) (x3 : Int32) (x4 : Int32) : Prop := Ev (N + 5) mX10_readClaim 202 [(0, .ref 245), (1, .int x1), (2, .int x2), (3, .int x3), (4, .int x4)] [] σ Q
abbrev LX10_readClaim_206 (N : Nat) (σ : Sg) (Q : Option Value → Sg → Prop) (x1 : Int32) (x2 : Int32) (x3 : Int32) (x4 : Int32) : Prop := Ev (N + 5) mX10_readClaim 206 [(0, .ref 245), (1, .int x1), (2, .int x2), (3, .int x3), (4, .int x4)] [] σ Q
theorem FX10_readClaim {N : Nat} {σ : Sg} {Q : Option Value → Sg → Prop} {x1 : Int32} (h : ((σ.1 245 48) = 1 → (5 ≤ (σ.1 245 49) → EvM (N + 4) mX10_wants [.ref 245, .int 0, .int 2] σ (fun r9 σ2 => r9 = none ∧ (LX10_readClaim_26 N σ2 Q x1))) ∧ (¬ 5 ≤ (σ.1 245 49) → EvM (N + 4) mX10_wants [.ref 245, .int 1, .int 2] σ (fun r9 σ3 => r9 = none ∧ (LX10_readClaim_26 N σ3 Q x1)))) ∧ (¬ (σ.1 245 48) = 1 → EvM (N + 4) mX10_wants [.ref 245, .int 0, .int 2] σ (fun r9 σ1 => r9 = none ∧ (LX10_readClaim_26 N σ1 Q x1)))) : EvM (N + 5) mX10_readClaim [.ref 245, .int x1] σ Q := by
  refine ev_entry rfl (Nat.le_of_ble_eq_true rfl) (lv := [(0, .ref 245), (1, .int x1)]) rfl ?_
  refine ev_aload_n 0 dX10_readClaim_0 rfl ?_
  refine ev_aload_n 0 dX10_readClaim_1 rfl ?_
  refine ev_get G10 lay_245 (k := 48) rfl (Nat.le_of_ble_eq_true rfl) dX10_readClaim_2 w_1274 ?_
  refine ev_iconst 1 dX10_readClaim_5 (by decide) ?_
  refine ev_icmp_ne 21 dX10_readClaim_6 (by decide) (fun c9 => ?_) (fun c9 => ?_)
  · replace h := h.2 c9
    refine ev_iconst 0 dX10_readClaim_21 (by decide) ?_
    refine ev_iconst 2 dX10_readClaim_22 (by decide) ?_
    refine ev_callV (M' := mX10_wants) [.int 0, .int 2] vX10_wants G10 lay_245 dX10_readClaim_23 w_1700 rfl rfl (Nat.le_of_ble_eq_true rfl) h ?_
    rintro r9 σ1 ⟨rfl, h⟩
    refine ev_sub [0, 1] rfl ?_
    exact h
  · replace h := h.1 c9
    refine ev_aload_n 0 dX10_readClaim_9 rfl ?_
    refine ev_get G10 lay_245 (k := 49) rfl (Nat.le_of_ble_eq_true rfl) dX10_readClaim_10 w_1275 ?_
    refine ev_iconst 5 dX10_readClaim_13 (by decide) ?_
    refine ev_icmp_ge 21 dX10_readClaim_14 (by decide) (fun c9 => ?_) (fun c9 => ?_)
    · replace h := h.1 c9
      refine ev_iconst 0 dX10_readClaim_21 (by decide) ?_
      refine ev_iconst 2 dX10_readClaim_22 (by decide) ?_
      refine ev_callV (M' := mX10_wants) [.int 0, .int 2] vX10_wants G10 lay_245 dX10_readClaim_23 w_1700 rfl rfl (Nat.le_of_ble_eq_true rfl) h ?_
      rintro r9 σ2 ⟨rfl, h⟩
      refine ev_sub [0, 1] rfl ?_
      exact h
    · replace h := h.2 c9
      refine ev_iconst 1 dX10_readClaim_17 (by decide) ?_
      refine ev_goto 22 dX10_readClaim_18 (by decide) ?_
      refine ev_iconst 2 dX10_readClaim_22 (by decide) ?_
      refine ev_callV (M' := mX10_wants) [.int 1, .int 2] vX10_wants G10 lay_245 dX10_readClaim_23 w_1700 rfl rfl (Nat.le_of_ble_eq_true rfl) h ?_
      rintro r9 σ3 ⟨rfl, h⟩
      refine ev_sub [0, 1] rfl ?_
      exact h
theorem DX10_readClaim_26 {N : Nat} {σ : Sg} {Q : Option Value → Sg → Prop} {x1 : Int32} (h : (20 ≤ x1 → EvM (N + 4) mX10_wants [.ref 245, .int 0, .int 5] σ (fun r9 σ4 => r9 = none ∧ (LX10_readClaim_42 N σ4 Q x1))) ∧ (¬ 20 ≤ x1 → EvM (N + 4) mX10_wants [.ref 245, .int 1, .int 5] σ (fun r9 σ5 => r9 = none ∧ (LX10_readClaim_42 N σ5 Q x1)))) : LX10_readClaim_26 N σ Q x1 := by
  refine ev_aload_n 0 dX10_readClaim_26 rfl ?_
  refine ev_iload_n 1 dX10_readClaim_27 rfl ?_
  refine ev_bipush 20 dX10_readClaim_28 (by decide) ?_
  refine ev_icmp_ge 37 dX10_readClaim_30 (by decide) (fun c9 => ?_) (fun c9 => ?_)
  · replace h := h.1 c9
    refine ev_iconst 0 dX10_readClaim_37 (by decide) ?_
    refine ev_iconst 5 dX10_readClaim_38 (by decide) ?_
    refine ev_callV (M' := mX10_wants) [.int 0, .int 5] vX10_wants G10 lay_245 dX10_readClaim_39 w_1700 rfl rfl (Nat.le_of_ble_eq_true rfl) h ?_
    rintro r9 σ4 ⟨rfl, h⟩
    refine ev_sub [0, 1] rfl ?_
    exact h
  · replace h := h.2 c9
    refine ev_iconst 1 dX10_readClaim_33 (by decide) ?_
    refine ev_goto 38 dX10_readClaim_34 (by decide) ?_
    refine ev_iconst 5 dX10_readClaim_38 (by decide) ?_
    refine ev_callV (M' := mX10_wants) [.int 1, .int 5] vX10_wants G10 lay_245 dX10_readClaim_39 w_1700 rfl rfl (Nat.le_of_ble_eq_true rfl) h ?_
    rintro r9 σ5 ⟨rfl, h⟩
    refine ev_sub [0, 1] rfl ?_
    exact h
theorem DX10_readClaim_42 {N : Nat} {σ : Sg} {Q : Option Value → Sg → Prop} {x1 : Int32} (h : EvM (N + 4) mX10_next [.ref 245] σ (fun r9 σ6 => r9 = none ∧ (LX10_readClaim_51 N σ6 Q x1 (σ.1 245 49)))) : LX10_readClaim_42 N σ Q x1 := by
  refine ev_aload_n 0 dX10_readClaim_42 rfl ?_
  refine ev_get G10 lay_245 (k := 49) rfl (Nat.le_of_ble_eq_true rfl) dX10_readClaim_43 w_1275 ?_
  refine ev_istore_n (lv' := [(2, .int (σ.1 245 49)), (0, .ref 245), (1, .int x1)]) dX10_readClaim_46 (Nat.le_of_ble_eq_true rfl) rfl ?_
  refine ev_aload_n 1 dX10_readClaim_47 rfl ?_
  refine ev_callV (M' := mX10_next) [] vX10_next G10 lay_245 dX10_readClaim_48 w_1682 rfl rfl (Nat.le_of_ble_eq_true rfl) h ?_
  rintro r9 σ6 ⟨rfl, h⟩
  refine ev_sub [1, 2, 0] rfl ?_
  exact h
theorem DX10_readClaim_51 {N : Nat} {σ : Sg} {Q : Option Value → Sg → Prop} {x1 : Int32} {x2 : Int32} (h : ((σ.1 245 48) = 2 → EvM (N + 4) mX10_wants [.ref 245, .int 1, .int 2] σ (fun r9 σ8 => r9 = none ∧ (LX10_readClaim_69 N σ8 Q x1 x2))) ∧ (¬ (σ.1 245 48) = 2 → EvM (N + 4) mX10_wants [.ref 245, .int 0, .int 2] σ (fun r9 σ7 => r9 = none ∧ (LX10_readClaim_69 N σ7 Q x1 x2)))) : LX10_readClaim_51 N σ Q x1 x2 := by
  refine ev_aload_n 0 dX10_readClaim_51 rfl ?_
  refine ev_aload_n 0 dX10_readClaim_52 rfl ?_
  refine ev_get G10 lay_245 (k := 48) rfl (Nat.le_of_ble_eq_true rfl) dX10_readClaim_53 w_1274 ?_
  refine ev_iconst 2 dX10_readClaim_56 (by decide) ?_
  refine ev_icmp_ne 64 dX10_readClaim_57 (by decide) (fun c9 => ?_) (fun c9 => ?_)
  · replace h := h.2 c9
    refine ev_iconst 0 dX10_readClaim_64 (by decide) ?_
    refine ev_iconst 2 dX10_readClaim_65 (by decide) ?_
    refine ev_callV (M' := mX10_wants) [.int 0, .int 2] vX10_wants G10 lay_245 dX10_readClaim_66 w_1700 rfl rfl (Nat.le_of_ble_eq_true rfl) h ?_
    rintro r9 σ7 ⟨rfl, h⟩
    refine ev_sub [0, 1, 2] rfl ?_
    exact h
  · replace h := h.1 c9
    refine ev_iconst 1 dX10_readClaim_60 (by decide) ?_
    refine ev_goto 65 dX10_readClaim_61 (by decide) ?_
    refine ev_iconst 2 dX10_readClaim_65 (by decide) ?_
    refine ev_callV (M' := mX10_wants) [.int 1, .int 2] vX10_wants G10 lay_245 dX10_readClaim_66 w_1700 rfl rfl (Nat.le_of_ble_eq_true rfl) h ?_
    rintro r9 σ8 ⟨rfl, h⟩
    refine ev_sub [0, 1, 2] rfl ?_
    exact h
theorem DX10_readClaim_69 {N : Nat} {σ : Sg} {Q : Option Value → Sg → Prop} {x1 : Int32} {x2 : Int32} (h : LX10_readClaim_77 N σ Q x1 x2 (σ.1 245 49) 0) : LX10_readClaim_69 N σ Q x1 x2 := by
  refine ev_aload_n 0 dX10_readClaim_69 rfl ?_
  refine ev_get G10 lay_245 (k := 49) rfl (Nat.le_of_ble_eq_true rfl) dX10_readClaim_70 w_1275 ?_
  refine ev_istore_n (lv' := [(3, .int (σ.1 245 49)), (0, .ref 245), (1, .int x1), (2, .int x2)]) dX10_readClaim_73 (Nat.le_of_ble_eq_true rfl) rfl ?_
  refine ev_iconst 0 dX10_readClaim_74 (by decide) ?_
  refine ev_istore (lv' := [(4, .int 0), (3, .int (σ.1 245 49)), (0, .ref 245), (1, .int x1), (2, .int x2)]) dX10_readClaim_75 (Nat.le_of_ble_eq_true rfl) rfl ?_
  refine ev_sub [2, 3, 4, 1, 0] rfl ?_
  exact h
theorem DX10_readClaim_77 {N : Nat} {σ : Sg} {Q : Option Value → Sg → Prop} {x1 : Int32} {x2 : Int32} {x3 : Int32} {x4 : Int32} (h : (x1 ≤ x4 → LX10_readClaim_140 N σ Q x1 x2 x3) ∧ (¬ x1 ≤ x4 → ((σ.1 245 50) = 0 → vp_in x4 20 ∧ (((σ.1 277 (x4).toNatClampNeg) = x2 → vp_in x4 20 ∧ (((σ.1 278 (x4).toNatClampNeg) = x3 → vp_in x4 20 ∧ (((σ.1 280 (x4).toNatClampNeg) = (-4) → EvM (N + 4) mX10_wants [.ref 245, .int 0, .int 4] σ (fun r9 σ11 => r9 = none ∧ (LX10_readClaim_134 N σ11 Q x1 x2 x3 x4))) ∧ (¬ (σ.1 280 (x4).toNatClampNeg) = (-4) → EvM (N + 4) mX10_wants [.ref 245, .int 1, .int 4] σ (fun r9 σ12 => r9 = none ∧ (LX10_readClaim_134 N σ12 Q x1 x2 x3 x4))))) ∧ (¬ (σ.1 278 (x4).toNatClampNeg) = x3 → EvM (N + 4) mX10_wants [.ref 245, .int 1, .int 4] σ (fun r9 σ10 => r9 = none ∧ (LX10_readClaim_134 N σ10 Q x1 x2 x3 x4))))) ∧ (¬ (σ.1 277 (x4).toNatClampNeg) = x2 → EvM (N + 4) mX10_wants [.ref 245, .int 1, .int 4] σ (fun r9 σ9 => r9 = none ∧ (LX10_readClaim_134 N σ9 Q x1 x2 x3 x4))))) ∧ (¬ (σ.1 245 50) = 0 → LX10_readClaim_140 N σ Q x1 x2 x3))) : LX10_readClaim_77 N σ Q x1 x2 x3 x4 := by
  refine ev_iload 4 dX10_readClaim_77 rfl ?_
  refine ev_iload_n 1 dX10_readClaim_79 rfl ?_
  refine ev_icmp_ge 140 dX10_readClaim_80 (by decide) (fun c9 => ?_) (fun c9 => ?_)
  · replace h := h.1 c9
    refine ev_sub [0, 1, 2, 3] rfl ?_
    exact h
  · replace h := h.2 c9
    refine ev_aload_n 0 dX10_readClaim_83 rfl ?_
    refine ev_get G10 lay_245 (k := 50) rfl (Nat.le_of_ble_eq_true rfl) dX10_readClaim_84 w_1276 ?_
    refine ev_if_ne 140 dX10_readClaim_87 (by decide) (fun c9 => ?_) (fun c9 => ?_)
    · replace h := h.2 c9
      refine ev_sub [0, 1, 2, 3] rfl ?_
      exact h
    · replace h := h.1 c9
      refine ev_aload_n 0 dX10_readClaim_90 rfl ?_
      refine ev_aload_n 0 dX10_readClaim_91 rfl ?_
      refine ev_getR (r := 277) G10 lay_245 (k := 53) rfl (Nat.le_of_ble_eq_true rfl) dX10_readClaim_92 w_1279 ?_
      refine ev_iload 4 dX10_readClaim_95 rfl ?_
      have hb97 := h.1
      replace h := h.2
      refine ev_iald lay_277 (Nat.le_of_ble_eq_true rfl) hb97 dX10_readClaim_97 ?_
      refine ev_iload_n 2 dX10_readClaim_98 rfl ?_
      refine ev_icmp_ne 125 dX10_readClaim_99 (by decide) (fun c9 => ?_) (fun c9 => ?_)
      · replace h := h.2 c9
        refine ev_iconst 1 dX10_readClaim_125 (by decide) ?_
        refine ev_goto 130 dX10_readClaim_126 (by decide) ?_
        refine ev_iconst 4 dX10_readClaim_130 (by decide) ?_
        refine ev_callV (M' := mX10_wants) [.int 1, .int 4] vX10_wants G10 lay_245 dX10_readClaim_131 w_1700 rfl rfl (Nat.le_of_ble_eq_true rfl) h ?_
        rintro r9 σ9 ⟨rfl, h⟩
        refine ev_sub [0, 1, 2, 3, 4] rfl ?_
        exact h
      · replace h := h.1 c9
        refine ev_aload_n 0 dX10_readClaim_102 rfl ?_
        refine ev_getR (r := 278) G10 lay_245 (k := 54) rfl (Nat.le_of_ble_eq_true rfl) dX10_readClaim_103 w_1280 ?_
        refine ev_iload 4 dX10_readClaim_106 rfl ?_
        have hb108 := h.1
        replace h := h.2
        refine ev_iald lay_278 (Nat.le_of_ble_eq_true rfl) hb108 dX10_readClaim_108 ?_
        refine ev_iload_n 3 dX10_readClaim_109 rfl ?_
        refine ev_icmp_ne 125 dX10_readClaim_110 (by decide) (fun c9 => ?_) (fun c9 => ?_)
        · replace h := h.2 c9
          refine ev_iconst 1 dX10_readClaim_125 (by decide) ?_
          refine ev_goto 130 dX10_readClaim_126 (by decide) ?_
          refine ev_iconst 4 dX10_readClaim_130 (by decide) ?_
          refine ev_callV (M' := mX10_wants) [.int 1, .int 4] vX10_wants G10 lay_245 dX10_readClaim_131 w_1700 rfl rfl (Nat.le_of_ble_eq_true rfl) h ?_
          rintro r9 σ10 ⟨rfl, h⟩
          refine ev_sub [0, 1, 2, 3, 4] rfl ?_
          exact h
        · replace h := h.1 c9
          refine ev_aload_n 0 dX10_readClaim_113 rfl ?_
          refine ev_getR (r := 280) G10 lay_245 (k := 56) rfl (Nat.le_of_ble_eq_true rfl) dX10_readClaim_114 w_1282 ?_
          refine ev_iload 4 dX10_readClaim_117 rfl ?_
          have hb119 := h.1
          replace h := h.2
          refine ev_iald lay_280 (Nat.le_of_ble_eq_true rfl) hb119 dX10_readClaim_119 ?_
          refine ev_bipush (-4) dX10_readClaim_120 (by decide) ?_
          refine ev_icmp_eq 129 dX10_readClaim_122 (by decide) (fun c9 => ?_) (fun c9 => ?_)
          · replace h := h.1 c9
            refine ev_iconst 0 dX10_readClaim_129 (by decide) ?_
            refine ev_iconst 4 dX10_readClaim_130 (by decide) ?_
            refine ev_callV (M' := mX10_wants) [.int 0, .int 4] vX10_wants G10 lay_245 dX10_readClaim_131 w_1700 rfl rfl (Nat.le_of_ble_eq_true rfl) h ?_
            rintro r9 σ11 ⟨rfl, h⟩
            refine ev_sub [0, 1, 2, 3, 4] rfl ?_
            exact h
          · replace h := h.2 c9
            refine ev_iconst 1 dX10_readClaim_125 (by decide) ?_
            refine ev_goto 130 dX10_readClaim_126 (by decide) ?_
            refine ev_iconst 4 dX10_readClaim_130 (by decide) ?_
            refine ev_callV (M' := mX10_wants) [.int 1, .int 4] vX10_wants G10 lay_245 dX10_readClaim_131 w_1700 rfl rfl (Nat.le_of_ble_eq_true rfl) h ?_
            rintro r9 σ12 ⟨rfl, h⟩
            refine ev_sub [0, 1, 2, 3, 4] rfl ?_
            exact h
theorem DX10_readClaim_134 {N : Nat} {σ : Sg} {Q : Option Value → Sg → Prop} {x1 : Int32} {x2 : Int32} {x3 : Int32} {x4 : Int32} (h : LX10_readClaim_77 N σ Q x1 x2 x3 (x4 + 1)) : LX10_readClaim_134 N σ Q x1 x2 x3 x4 := by
  refine ev_iinc (lv' := [(4, .int (x4 + 1)), (0, .ref 245), (1, .int x1), (2, .int x2), (3, .int x3)]) (x4 + 1) 4 dX10_readClaim_134 rfl rfl (Nat.le_of_ble_eq_true rfl) rfl ?_
  refine ev_goto 77 dX10_readClaim_137 (by decide) ?_
  refine ev_sub [1, 2, 3, 4, 0] rfl ?_
  exact h
theorem DX10_readClaim_140 {N : Nat} {σ : Sg} {Q : Option Value → Sg → Prop} {x1 : Int32} {x2 : Int32} {x3 : Int32} (h : EvM (N + 4) mX10_next [.ref 245] σ (fun r9 σ13 => r9 = none ∧ (LX10_readClaim_144 N σ13 Q x1 x2 x3))) : LX10_readClaim_140 N σ Q x1 x2 x3 := by
  refine ev_aload_n 0 dX10_readClaim_140 rfl ?_
  refine ev_callV (M' := mX10_next) [] vX10_next G10 lay_245 dX10_readClaim_141 w_1682 rfl rfl (Nat.le_of_ble_eq_true rfl) h ?_
  rintro r9 σ13 ⟨rfl, h⟩
  refine ev_sub [0, 1, 2, 3] rfl ?_
  exact h
theorem DX10_readClaim_144 {N : Nat} {σ : Sg} {Q : Option Value → Sg → Prop} {x1 : Int32} {x2 : Int32} {x3 : Int32} (h : ((σ.1 245 50) = 0 → ((σ.1 245 48) = 1 → ((σ.1 245 49) = 5 → EvM (N + 4) mX10_readOn [.ref 245, .int x1] σ (fun r9 σ14 => ∃ v14, r9 = some (.int v14) ∧ (LX10_readClaim_177 N σ14 Q x1 x2 x3 v14))) ∧ (¬ (σ.1 245 49) = 5 → LX10_readClaim_177 N σ Q x1 x2 x3 0)) ∧ (¬ (σ.1 245 48) = 1 → LX10_readClaim_177 N σ Q x1 x2 x3 0)) ∧ (¬ (σ.1 245 50) = 0 → LX10_readClaim_177 N σ Q x1 x2 x3 0)) : LX10_readClaim_144 N σ Q x1 x2 x3 := by
  refine ev_iconst 0 dX10_readClaim_144 (by decide) ?_
  refine ev_istore (lv' := [(4, .int 0), (0, .ref 245), (1, .int x1), (2, .int x2), (3, .int x3)]) dX10_readClaim_145 (Nat.le_of_ble_eq_true rfl) rfl ?_
  refine ev_aload_n 1 dX10_readClaim_147 rfl ?_
  refine ev_get G10 lay_245 (k := 50) rfl (Nat.le_of_ble_eq_true rfl) dX10_readClaim_148 w_1276 ?_
  refine ev_if_ne 177 dX10_readClaim_151 (by decide) (fun c9 => ?_) (fun c9 => ?_)
  · replace h := h.2 c9
    refine ev_sub [1, 2, 3, 4, 0] rfl ?_
    exact h
  · replace h := h.1 c9
    refine ev_aload_n 1 dX10_readClaim_154 rfl ?_
    refine ev_get G10 lay_245 (k := 48) rfl (Nat.le_of_ble_eq_true rfl) dX10_readClaim_155 w_1274 ?_
    refine ev_iconst 1 dX10_readClaim_158 (by decide) ?_
    refine ev_icmp_ne 177 dX10_readClaim_159 (by decide) (fun c9 => ?_) (fun c9 => ?_)
    · replace h := h.2 c9
      refine ev_sub [1, 2, 3, 4, 0] rfl ?_
      exact h
    · replace h := h.1 c9
      refine ev_aload_n 1 dX10_readClaim_162 rfl ?_
      refine ev_get G10 lay_245 (k := 49) rfl (Nat.le_of_ble_eq_true rfl) dX10_readClaim_163 w_1275 ?_
      refine ev_iconst 5 dX10_readClaim_166 (by decide) ?_
      refine ev_icmp_ne 177 dX10_readClaim_167 (by decide) (fun c9 => ?_) (fun c9 => ?_)
      · replace h := h.2 c9
        refine ev_sub [1, 2, 3, 4, 0] rfl ?_
        exact h
      · replace h := h.1 c9
        refine ev_aload_n 1 dX10_readClaim_170 rfl ?_
        refine ev_iload_n 2 dX10_readClaim_171 rfl ?_
        refine ev_callV (M' := mX10_readOn) [.int x1] vX10_readOn G10 lay_245 dX10_readClaim_172 w_1710 rfl rfl (Nat.le_of_ble_eq_true rfl) h ?_
        rintro r9 σ14 ⟨v14, rfl, h⟩
        refine ev_istore (lv' := [(4, .int v14), (0, .ref 245), (1, .int x1), (2, .int x2), (3, .int x3)]) dX10_readClaim_175 (Nat.le_of_ble_eq_true rfl) rfl ?_
        refine ev_sub [1, 2, 3, 4, 0] rfl ?_
        exact h
theorem DX10_readClaim_177 {N : Nat} {σ : Sg} {Q : Option Value → Sg → Prop} {x1 : Int32} {x2 : Int32} {x3 : Int32} {x4 : Int32} (h : ((σ.1 245 50) = 0 → ((σ.1 245 48) = 3 → EvM (N + 4) mX10_wants [.ref 245, .int 1, .int 2] σ (fun r9 σ16 => r9 = none ∧ (LX10_readClaim_202 N σ16 Q x1 x2 x3 x4))) ∧ (¬ (σ.1 245 48) = 3 → EvM (N + 4) mX10_wants [.ref 245, .int 0, .int 2] σ (fun r9 σ15 => r9 = none ∧ (LX10_readClaim_202 N σ15 Q x1 x2 x3 x4)))) ∧ (¬ (σ.1 245 50) = 0 → LX10_readClaim_202 N σ Q x1 x2 x3 x4)) : LX10_readClaim_177 N σ Q x1 x2 x3 x4 := by
  refine ev_aload_n 0 dX10_readClaim_177 rfl ?_
  refine ev_get G10 lay_245 (k := 50) rfl (Nat.le_of_ble_eq_true rfl) dX10_readClaim_178 w_1276 ?_
  refine ev_if_ne 202 dX10_readClaim_181 (by decide) (fun c9 => ?_) (fun c9 => ?_)
  · replace h := h.2 c9
    refine ev_sub [0, 1, 2, 3, 4] rfl ?_
    exact h
  · replace h := h.1 c9
    refine ev_aload_n 0 dX10_readClaim_184 rfl ?_
    refine ev_aload_n 0 dX10_readClaim_185 rfl ?_
    refine ev_get G10 lay_245 (k := 48) rfl (Nat.le_of_ble_eq_true rfl) dX10_readClaim_186 w_1274 ?_
    refine ev_iconst 3 dX10_readClaim_189 (by decide) ?_
    refine ev_icmp_ne 197 dX10_readClaim_190 (by decide) (fun c9 => ?_) (fun c9 => ?_)
    · replace h := h.2 c9
      refine ev_iconst 0 dX10_readClaim_197 (by decide) ?_
      refine ev_iconst 2 dX10_readClaim_198 (by decide) ?_
      refine ev_callV (M' := mX10_wants) [.int 0, .int 2] vX10_wants G10 lay_245 dX10_readClaim_199 w_1700 rfl rfl (Nat.le_of_ble_eq_true rfl) h ?_
      rintro r9 σ15 ⟨rfl, h⟩
      refine ev_sub [0, 1, 2, 3, 4] rfl ?_
      exact h
    · replace h := h.1 c9
      refine ev_iconst 1 dX10_readClaim_193 (by decide) ?_
      refine ev_goto 198 dX10_readClaim_194 (by decide) ?_
      refine ev_iconst 2 dX10_readClaim_198 (by decide) ?_
      refine ev_callV (M' := mX10_wants) [.int 1, .int 2] vX10_wants G10 lay_245 dX10_readClaim_199 w_1700 rfl rfl (Nat.le_of_ble_eq_true rfl) h ?_
      rintro r9 σ16 ⟨rfl, h⟩
      refine ev_sub [0, 1, 2, 3, 4] rfl ?_
      exact h
theorem DX10_readClaim_202 {N : Nat} {σ : Sg} {Q : Option Value → Sg → Prop} {x1 : Int32} {x2 : Int32} {x3 : Int32} {x4 : Int32} (h : EvM (N + 4) mX10_next [.ref 245] σ (fun r9 σ17 => r9 = none ∧ (LX10_readClaim_206 N σ17 Q x1 x2 x3 x4))) : LX10_readClaim_202 N σ Q x1 x2 x3 x4 := by
  refine ev_aload_n 0 dX10_readClaim_202 rfl ?_
  refine ev_callV (M' := mX10_next) [] vX10_next G10 lay_245 dX10_readClaim_203 w_1682 rfl rfl (Nat.le_of_ble_eq_true rfl) h ?_
  rintro r9 σ17 ⟨rfl, h⟩
  refine ev_sub [0, 1, 2, 3, 4] rfl ?_
  exact h
theorem DX10_readClaim_206 {N : Nat} {σ : Sg} {Q : Option Value → Sg → Prop} {x1 : Int32} {x2 : Int32} {x3 : Int32} {x4 : Int32} (h : ((σ.1 245 50) ≤ 0 → vp_in x1 20 ∧ (vp_in x1 20 ∧ (vp_in x1 20 ∧ (vp_in x1 20 ∧ (vp_in x1 20 ∧ (Q (some (.int (x1 + 1))) (u1 (u1 (u1 (u1 (u1 σ 277 (x1).toNatClampNeg x2) 278 (x1).toNatClampNeg x3) 279 (x1).toNatClampNeg ((u1 (u1 σ 277 (x1).toNatClampNeg x2) 278 (x1).toNatClampNeg x3).1 245 58)) 280 (x1).toNatClampNeg (-4)) 281 (x1).toNatClampNeg x4))))))) ∧ (¬ (σ.1 245 50) ≤ 0 → Q (some (.int x1)) σ)) : LX10_readClaim_206 N σ Q x1 x2 x3 x4 := by
  refine ev_aload_n 0 dX10_readClaim_206 rfl ?_
  refine ev_get G10 lay_245 (k := 50) rfl (Nat.le_of_ble_eq_true rfl) dX10_readClaim_207 w_1276 ?_
  refine ev_if_le 215 dX10_readClaim_210 (by decide) (fun c9 => ?_) (fun c9 => ?_)
  · replace h := h.1 c9
    refine ev_aload_n 0 dX10_readClaim_215 rfl ?_
    refine ev_getR (r := 277) G10 lay_245 (k := 53) rfl (Nat.le_of_ble_eq_true rfl) dX10_readClaim_216 w_1279 ?_
    refine ev_iload_n 1 dX10_readClaim_219 rfl ?_
    refine ev_iload_n 2 dX10_readClaim_220 rfl ?_
    have hb221 := h.1
    replace h := h.2
    refine ev_iast lay_277 (Nat.le_of_ble_eq_true rfl) hb221 dX10_readClaim_221 ?_
    refine ev_aload_n 0 dX10_readClaim_222 rfl ?_
    refine ev_getR (r := 278) G10 lay_245 (k := 54) rfl (Nat.le_of_ble_eq_true rfl) dX10_readClaim_223 w_1280 ?_
    refine ev_iload_n 1 dX10_readClaim_226 rfl ?_
    refine ev_iload_n 3 dX10_readClaim_227 rfl ?_
    have hb228 := h.1
    replace h := h.2
    refine ev_iast lay_278 (Nat.le_of_ble_eq_true rfl) hb228 dX10_readClaim_228 ?_
    refine ev_aload_n 0 dX10_readClaim_229 rfl ?_
    refine ev_getR (r := 279) G10 lay_245 (k := 55) rfl (Nat.le_of_ble_eq_true rfl) dX10_readClaim_230 w_1281 ?_
    refine ev_iload_n 1 dX10_readClaim_233 rfl ?_
    refine ev_aload_n 0 dX10_readClaim_234 rfl ?_
    refine ev_get G10 lay_245 (k := 58) rfl (Nat.le_of_ble_eq_true rfl) dX10_readClaim_235 w_1284 ?_
    have hb238 := h.1
    replace h := h.2
    refine ev_iast lay_279 (Nat.le_of_ble_eq_true rfl) hb238 dX10_readClaim_238 ?_
    refine ev_aload_n 0 dX10_readClaim_239 rfl ?_
    refine ev_getR (r := 280) G10 lay_245 (k := 56) rfl (Nat.le_of_ble_eq_true rfl) dX10_readClaim_240 w_1282 ?_
    refine ev_iload_n 1 dX10_readClaim_243 rfl ?_
    refine ev_bipush (-4) dX10_readClaim_244 (by decide) ?_
    have hb246 := h.1
    replace h := h.2
    refine ev_iast lay_280 (Nat.le_of_ble_eq_true rfl) hb246 dX10_readClaim_246 ?_
    refine ev_aload_n 0 dX10_readClaim_247 rfl ?_
    refine ev_getR (r := 281) G10 lay_245 (k := 57) rfl (Nat.le_of_ble_eq_true rfl) dX10_readClaim_248 w_1283 ?_
    refine ev_iload_n 1 dX10_readClaim_251 rfl ?_
    refine ev_iload 4 dX10_readClaim_252 rfl ?_
    have hb254 := h.1
    replace h := h.2
    refine ev_iast lay_281 (Nat.le_of_ble_eq_true rfl) hb254 dX10_readClaim_254 ?_
    refine ev_iload_n 1 dX10_readClaim_255 rfl ?_
    refine ev_iconst 1 dX10_readClaim_256 (by decide) ?_
    refine ev_iadd dX10_readClaim_257 ?_
    exact ev_iret rfl dX10_readClaim_258 h
  · replace h := h.2 c9
    refine ev_iload_n 1 dX10_readClaim_213 rfl ?_
    exact ev_iret rfl dX10_readClaim_214 h
abbrev LX1_take_27 (N : Nat) (σ : Sg) (Q : Option Value → Sg → Prop) (x1 : Int32) : Prop := Ev (N + 11) mX1_take 27 [(0, .ref 230), (1, .int x1)] [] σ Q
abbrev LX1_take_57 (N : Nat) (σ : Sg) (Q : Option Value → Sg → Prop) (x1 : Int32) (x2 : Int32) : Prop := Ev (N + 11) mX1_take 57 [(0, .ref 230), (1, .int x1), (2, .int x2)] [] σ Q
abbrev LX1_take_89 (N : Nat) (σ : Sg) (Q : Option Value → Sg → Prop) : Prop := Ev (N + 11) mX1_take 89 [(0, .ref 230)] [] σ Q
theorem FX1_take {N : Nat} {σ : Sg} {Q : Option Value → Sg → Prop} (h : EvM (N + 10) mX6_rewind [.ref 228] σ (fun r9 σ1 => r9 = none ∧ (LX1_take_27 N (u1 (u1 (u1 σ1 230 8 (σ1.1 230 7)) 230 9 0) 230 10 0) Q 0))) : EvM (N + 11) mX1_take [.ref 230] σ Q := by
  refine ev_entry rfl (Nat.le_of_ble_eq_true rfl) (lv := [(0, .ref 230)]) rfl ?_
  refine ev_aload_n 0 dX1_take_0 rfl ?_
  refine ev_getR (r := 228) G1 lay_230 (k := 0) rfl (Nat.le_of_ble_eq_true rfl) dX1_take_1 w_357 ?_
  refine ev_callV (M' := mX6_rewind) [] vX6_rewind G6 lay_228 dX1_take_4 w_991 rfl rfl (Nat.le_of_ble_eq_true rfl) h ?_
  rintro r9 σ1 ⟨rfl, h⟩
  refine ev_aload_n 0 dX1_take_7 rfl ?_
  refine ev_aload_n 0 dX1_take_8 rfl ?_
  refine ev_get G1 lay_230 (k := 7) rfl (Nat.le_of_ble_eq_true rfl) dX1_take_9 w_364 ?_
  refine ev_put G1 lay_230 (k := 8) rfl (Nat.le_of_ble_eq_true rfl) rfl (by decide +kernel) dX1_take_12 w_365 ?_
  refine ev_aload_n 0 dX1_take_15 rfl ?_
  refine ev_iconst 0 dX1_take_16 (by decide) ?_
  refine ev_put G1 lay_230 (k := 9) rfl (Nat.le_of_ble_eq_true rfl) rfl (by decide +kernel) dX1_take_17 w_366 ?_
  refine ev_aload_n 0 dX1_take_20 rfl ?_
  refine ev_iconst 0 dX1_take_21 (by decide) ?_
  refine ev_put G1 lay_230 (k := 10) rfl (Nat.le_of_ble_eq_true rfl) rfl (by decide +kernel) dX1_take_22 w_367 ?_
  refine ev_iconst 0 dX1_take_25 (by decide) ?_
  refine ev_istore_n (lv' := [(1, .int 0), (0, .ref 230)]) dX1_take_26 (Nat.le_of_ble_eq_true rfl) rfl ?_
  refine ev_sub [1, 0] rfl ?_
  exact h
theorem DX1_take_27 {N : Nat} {σ : Sg} {Q : Option Value → Sg → Prop} {x1 : Int32} (h : (160 < x1 → LX1_take_89 N σ Q) ∧ (¬ 160 < x1 → EvM (N + 10) mX6_nextToken [.ref 228] σ (fun r9 σ2 => ∃ v2, r9 = some (.int v2) ∧ ((v2 = 1 → ((σ2.1 230 9) = 0 → LX1_take_89 N σ2 Q) ∧ (¬ (σ2.1 230 9) = 0 → LX1_take_57 N σ2 Q x1 v2)) ∧ (¬ v2 = 1 → LX1_take_57 N σ2 Q x1 v2))))) : LX1_take_27 N σ Q x1 := by
  refine ev_iload_n 1 dX1_take_27 rfl ?_
  refine ev_sipush 160 dX1_take_28 (by decide) ?_
  refine ev_icmp_gt 89 dX1_take_31 (by decide) (fun c9 => ?_) (fun c9 => ?_)
  · replace h := h.1 c9
    refine ev_sub [0] rfl ?_
    exact h
  · replace h := h.2 c9
    refine ev_aload_n 0 dX1_take_34 rfl ?_
    refine ev_getR (r := 228) G1 lay_230 (k := 0) rfl (Nat.le_of_ble_eq_true rfl) dX1_take_35 w_357 ?_
    refine ev_callV (M' := mX6_nextToken) [] vX6_nextToken G6 lay_228 dX1_take_38 w_995 rfl rfl (Nat.le_of_ble_eq_true rfl) h ?_
    rintro r9 σ2 ⟨v2, rfl, h⟩
    refine ev_istore_n (lv' := [(2, .int v2), (0, .ref 230), (1, .int x1)]) dX1_take_41 (Nat.le_of_ble_eq_true rfl) rfl ?_
    refine ev_iload_n 0 dX1_take_42 rfl ?_
    refine ev_iconst 1 dX1_take_43 (by decide) ?_
    refine ev_icmp_ne 57 dX1_take_44 (by decide) (fun c9 => ?_) (fun c9 => ?_)
    · replace h := h.2 c9
      refine ev_sub [1, 2, 0] rfl ?_
      exact h
    · replace h := h.1 c9
      refine ev_aload_n 1 dX1_take_47 rfl ?_
      refine ev_get G1 lay_230 (k := 9) rfl (Nat.le_of_ble_eq_true rfl) dX1_take_48 w_366 ?_
      refine ev_if_ne 57 dX1_take_51 (by decide) (fun c9 => ?_) (fun c9 => ?_)
      · replace h := h.2 c9
        refine ev_sub [1, 2, 0] rfl ?_
        exact h
      · replace h := h.1 c9
        refine ev_goto 89 dX1_take_54 (by decide) ?_
        refine ev_sub [1] rfl ?_
        exact h
theorem DX1_take_57 {N : Nat} {σ : Sg} {Q : Option Value → Sg → Prop} {x1 : Int32} {x2 : Int32} (h : EvM (N + 10) mX1_follow [.ref 230, .int x2, .int (σ.1 228 4)] σ (fun r9 σ3 => ∃ v3, r9 = some (.int v3) ∧ ((((u1 σ3 230 10 v3).1 230 10) = 0 → LX1_take_27 N (u1 σ3 230 10 v3) Q (x1 + 1)) ∧ (¬ ((u1 σ3 230 10 v3).1 230 10) = 0 → LX1_take_89 N (u1 σ3 230 10 v3) Q)))) : LX1_take_57 N σ Q x1 x2 := by
  refine ev_aload_n 0 dX1_take_57 rfl ?_
  refine ev_aload_n 0 dX1_take_58 rfl ?_
  refine ev_iload_n 2 dX1_take_59 rfl ?_
  refine ev_aload_n 0 dX1_take_60 rfl ?_
  refine ev_getR (r := 228) G1 lay_230 (k := 0) rfl (Nat.le_of_ble_eq_true rfl) dX1_take_61 w_357 ?_
  refine ev_callV (M' := mX6_value) [] vX6_value G6 lay_228 dX1_take_64 w_1074 rfl rfl (Nat.le_of_ble_eq_true rfl) (EX6_value (Q := fun r9 s9 => σ = s9 ∧ r9 = some (.int (σ.1 228 4))) ⟨rfl, rfl⟩) ?_
  rintro r9 s9 ⟨rfl, rfl⟩
  refine ev_callV (M' := mX1_follow) [.int x2, .int (σ.1 228 4)] vX1_follow G1 lay_230 dX1_take_67 w_1078 rfl rfl (Nat.le_of_ble_eq_true rfl) h ?_
  rintro r9 σ3 ⟨v3, rfl, h⟩
  refine ev_put G1 lay_230 (k := 10) rfl (Nat.le_of_ble_eq_true rfl) rfl (by decide +kernel) dX1_take_70 w_367 ?_
  refine ev_aload_n 0 dX1_take_73 rfl ?_
  refine ev_get G1 lay_230 (k := 10) rfl (Nat.le_of_ble_eq_true rfl) dX1_take_74 w_367 ?_
  refine ev_if_eq 83 dX1_take_77 (by decide) (fun c9 => ?_) (fun c9 => ?_)
  · replace h := h.1 c9
    refine ev_iinc (lv' := [(1, .int (x1 + 1)), (0, .ref 230), (2, .int x2)]) (x1 + 1) 1 dX1_take_83 rfl rfl (Nat.le_of_ble_eq_true rfl) rfl ?_
    refine ev_goto 27 dX1_take_86 (by decide) ?_
    refine ev_sub [1, 0] rfl ?_
    exact h
  · replace h := h.2 c9
    refine ev_goto 89 dX1_take_80 (by decide) ?_
    refine ev_sub [0] rfl ?_
    exact h
theorem DX1_take_89 {N : Nat} {σ : Sg} {Q : Option Value → Sg → Prop} (h : EvM (N + 10) mX6_cut [.ref 228, .int 0] σ (fun r9 σ4 => ∃ v4, r9 = some (.int v4) ∧ (((σ4.1 230 10) = 0 → Q (some (.int ((σ4.1 230 8) - (σ4.1 230 7)))) (u1 σ4 230 7 (σ4.1 230 8))) ∧ (¬ (σ4.1 230 10) = 0 → Q (some (.int ((-10) - (σ4.1 228 3)))) σ4)))) : LX1_take_89 N σ Q := by
  refine ev_aload_n 0 dX1_take_89 rfl ?_
  refine ev_getR (r := 228) G1 lay_230 (k := 0) rfl (Nat.le_of_ble_eq_true rfl) dX1_take_90 w_357 ?_
  refine ev_iconst 0 dX1_take_93 (by decide) ?_
  refine ev_callV (M' := mX6_cut) [.int 0] vX6_cut G6 lay_228 dX1_take_94 w_1103 rfl rfl (Nat.le_of_ble_eq_true rfl) h ?_
  rintro r9 σ4 ⟨v4, rfl, h⟩
  refine ev_pop dX1_take_97 rfl ?_
  refine ev_aload_n 0 dX1_take_98 rfl ?_
  refine ev_get G1 lay_230 (k := 10) rfl (Nat.le_of_ble_eq_true rfl) dX1_take_99 w_367 ?_
  refine ev_if_eq 116 dX1_take_102 (by decide) (fun c9 => ?_) (fun c9 => ?_)
  · replace h := h.1 c9
    refine ev_aload_n 0 dX1_take_116 rfl ?_
    refine ev_get G1 lay_230 (k := 8) rfl (Nat.le_of_ble_eq_true rfl) dX1_take_117 w_365 ?_
    refine ev_aload_n 0 dX1_take_120 rfl ?_
    refine ev_get G1 lay_230 (k := 7) rfl (Nat.le_of_ble_eq_true rfl) dX1_take_121 w_364 ?_
    refine ev_isub dX1_take_124 ?_
    refine ev_istore_n (lv' := [(1, .int ((σ4.1 230 8) - (σ4.1 230 7))), (0, .ref 230)]) dX1_take_125 (Nat.le_of_ble_eq_true rfl) rfl ?_
    refine ev_aload_n 1 dX1_take_126 rfl ?_
    refine ev_aload_n 1 dX1_take_127 rfl ?_
    refine ev_get G1 lay_230 (k := 8) rfl (Nat.le_of_ble_eq_true rfl) dX1_take_128 w_365 ?_
    refine ev_put G1 lay_230 (k := 7) rfl (Nat.le_of_ble_eq_true rfl) rfl (by decide +kernel) dX1_take_131 w_364 ?_
    refine ev_iload_n 0 dX1_take_134 rfl ?_
    exact ev_iret rfl dX1_take_135 h
  · replace h := h.2 c9
    refine ev_bipush (-10) dX1_take_105 (by decide) ?_
    refine ev_aload_n 0 dX1_take_107 rfl ?_
    refine ev_getR (r := 228) G1 lay_230 (k := 0) rfl (Nat.le_of_ble_eq_true rfl) dX1_take_108 w_357 ?_
    refine ev_callV (M' := mX6_start) [] vX6_start G6 lay_228 dX1_take_111 w_1104 rfl rfl (Nat.le_of_ble_eq_true rfl) (EX6_start (Q := fun r9 s9 => σ4 = s9 ∧ r9 = some (.int (σ4.1 228 3))) ⟨rfl, rfl⟩) ?_
    rintro r9 s9 ⟨rfl, rfl⟩
    refine ev_isub dX1_take_114 ?_
    exact ev_iret rfl dX1_take_115 h
