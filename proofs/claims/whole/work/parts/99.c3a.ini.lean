/-! ===== constructors, printed by gen_ct.py ===== -/
set_option maxRecDepth 100000 in
theorem wC_119 : (Jvm.Cond.instanceMethod ({ cls := "java/lang/Object", name := "<init>", desc := "()V" } : Jvm.MethodName)) ∈ TB := lw_in (i := 119) (by decide +kernel) rfl
theorem wC_120 : Cond.code Lib.objectInit ⟨#[0xb1]⟩ 1 none ∈ TB := lw_in (i := 120) (by rfl) rfl
set_option maxRecDepth 100000 in
theorem wC_126 : (Jvm.Cond.methodLink "UnreadScript$Forms" (3 : Nat) ({ cls := "java/lang/Object", name := "<init>", desc := "()V" } : Jvm.MethodName)) ∈ TB := lw_in (i := 126) (by decide +kernel) rfl
set_option maxRecDepth 100000 in
theorem wC_127 : (Jvm.Cond.fieldLink "UnreadScript$Forms" (11 : Nat) "UnreadScript$Forms" "features" "[I") ∈ TB := lw_in (i := 127) (by decide +kernel) rfl
set_option maxRecDepth 100000 in
theorem wC_128 : (Jvm.Cond.fieldLink "UnreadScript$Forms" (15 : Nat) "UnreadScript$Forms" "signs" "[I") ∈ TB := lw_in (i := 128) (by decide +kernel) rfl
set_option maxRecDepth 100000 in
theorem wC_129 : (Jvm.Cond.fieldLink "UnreadScript$Forms" (18 : Nat) "UnreadScript$Forms" "trial" "[I") ∈ TB := lw_in (i := 129) (by decide +kernel) rfl
set_option maxRecDepth 100000 in
theorem wC_131 : (Jvm.Cond.fieldLink "UnreadScript$Forms" (21 : Nat) "UnreadScript$Forms" "limit" "I") ∈ TB := lw_in (i := 131) (by decide +kernel) rfl
set_option maxRecDepth 100000 in
theorem wC_143 : (Jvm.Cond.arrayClass Jvm.ClassFile.FieldType.int) ∈ TB := lw_in (i := 143) (by decide +kernel) rfl
/-- what the constructor of UnreadScript$Forms leaves -/
def Wn2 (g : GC) (h0 : Nat) (u : (Nat → Nat) × (Nat → Nat → Nat)) : va_W := (h0, .inr (2, [.ref (u.1 0), .ref (u.1 1), .ref (u.1 2), .int 0, .int (1)])) :: ((([] ++ [((u.1 0), .inl (g.2.2.1 0, 24, .inl (fun _ => 0)))]) ++ [((u.1 1), .inl (g.2.2.1 0, 24, .inl (fun _ => 0)))]) ++ [((u.1 2), .inl (g.2.2.1 0, 24, .inl (fun _ => 0)))])
set_option maxRecDepth 100000 in
theorem K_init2 (l : Launch) (g : GC) (h0 : Nat) : CtM mX2_init 3 72 2 [] h0 (.inr (2, [.null, .null, .null, .int 0, .int 0])) g l (Wn2 g h0) := by
  refine ct_entry (lv := [(0, .ref h0)]) rfl rfl (Nat.le_of_ble_eq_true rfl) rfl ?_
  intro p e s m args below meth c A ls C hov hA hAe hl
  refine ct_aload C hl 0 dX2_init_0 rfl ?_
  refine ct_objInit C hl wC_126 wC_119 wC_120 (Nat.le_of_ble_eq_true rfl) (Nat.le_of_ble_eq_true rfl) rfl dX2_init_1 ?_
  refine ct_aload C hl 0 dX2_init_4 rfl ?_
  refine ct_bipush C (24) dX2_init_5 (by decide) ?_
  refine ct_newR C hA (atype := .int) (ty := .int) 0 wC_143 rfl rfl (fun _ _ h => h) (a0 := (24, .inl (fun _ => 0))) (fun _ => rfl) (by decide) rfl (Nat.le_of_ble_eq_true rfl) (Nat.le_of_ble_eq_true rfl) (Nat.le_of_ble_eq_true rfl) dX2_init_7 (fun q0 => ?_)
  refine ct_putFH C (fs' := [.ref q0, .null, .null, .int 0, .int 0]) (fty := (.array .int)) (v := .ref q0) (k := 0) G2 (Nat.le_of_ble_eq_true rfl) rfl rfl (by decide +kernel) rfl rfl (Nat.le_of_ble_eq_true rfl) rfl dX2_init_9 wC_127 ?_
  refine ct_aload C hl 0 dX2_init_12 rfl ?_
  refine ct_bipush C (24) dX2_init_13 (by decide) ?_
  refine ct_newR C hA (atype := .int) (ty := .int) 0 wC_143 rfl rfl (fun _ _ h => h) (a0 := (24, .inl (fun _ => 0))) (fun _ => rfl) (by decide) rfl (Nat.le_of_ble_eq_true rfl) (Nat.le_of_ble_eq_true rfl) (Nat.le_of_ble_eq_true rfl) dX2_init_15 (fun q1 => ?_)
  refine ct_putFH C (fs' := [.ref q0, .ref q1, .null, .int 0, .int 0]) (fty := (.array .int)) (v := .ref q1) (k := 1) G2 (Nat.le_of_ble_eq_true rfl) rfl rfl (by decide +kernel) rfl rfl (Nat.le_of_ble_eq_true rfl) rfl dX2_init_17 wC_128 ?_
  refine ct_aload C hl 0 dX2_init_20 rfl ?_
  refine ct_bipush C (24) dX2_init_21 (by decide) ?_
  refine ct_newR C hA (atype := .int) (ty := .int) 0 wC_143 rfl rfl (fun _ _ h => h) (a0 := (24, .inl (fun _ => 0))) (fun _ => rfl) (by decide) rfl (Nat.le_of_ble_eq_true rfl) (Nat.le_of_ble_eq_true rfl) (Nat.le_of_ble_eq_true rfl) dX2_init_23 (fun q2 => ?_)
  refine ct_putFH C (fs' := [.ref q0, .ref q1, .ref q2, .int 0, .int 0]) (fty := (.array .int)) (v := .ref q2) (k := 2) G2 (Nat.le_of_ble_eq_true rfl) rfl rfl (by decide +kernel) rfl rfl (Nat.le_of_ble_eq_true rfl) rfl dX2_init_25 wC_129 ?_
  refine ct_aload C hl 0 dX2_init_28 rfl ?_
  refine ct_iconst C (1) dX2_init_29 (by decide) ?_
  refine ct_putH C (fs' := [.ref q0, .ref q1, .ref q2, .int 0, .int (1)]) (fty := .int) (v := .int (1)) (k := 4) G2 (Nat.le_of_ble_eq_true rfl) rfl (by decide +kernel) rfl rfl (Nat.le_of_ble_eq_true rfl) rfl dX2_init_30 wC_131 ?_
  exact ct_vret C (fun k => if k = 0 then q0 else if k = 1 then q1 else if k = 2 then q2 else 0, fun k => fun _ => 0) rfl rfl dX2_init_33
