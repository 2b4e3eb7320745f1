/-! ===== constructors, printed by gen_ct.py ===== -/
set_option maxRecDepth 100000 in
theorem wC_149 : (Jvm.Cond.methodLink "UnreadScript$Texts" (5 : Nat) ({ cls := "java/lang/Object", name := "<init>", desc := "()V" } : Jvm.MethodName)) ∈ TB := lw_in (i := 149) (by decide +kernel) rfl
set_option maxRecDepth 100000 in
theorem wC_150 : (Jvm.Cond.classLink "UnreadScript$Texts" (15 : Nat) "[[I") ∈ TB := lw_in (i := 150) (by decide +kernel) rfl
set_option maxRecDepth 100000 in
theorem wC_152 : (Jvm.Cond.fieldLink "UnreadScript$Texts" (41 : Nat) "UnreadScript$Texts" "forms" "LUnreadScript$Forms;") ∈ TB := lw_in (i := 152) (by decide +kernel) rfl
set_option maxRecDepth 100000 in
theorem wC_153 : (Jvm.Cond.fieldLink "UnreadScript$Texts" (11 : Nat) "UnreadScript$Texts" "draft" "[I") ∈ TB := lw_in (i := 153) (by decide +kernel) rfl
set_option maxRecDepth 100000 in
theorem wC_154 : (Jvm.Cond.fieldLink "UnreadScript$Texts" (17 : Nat) "UnreadScript$Texts" "cells" "[[I") ∈ TB := lw_in (i := 154) (by decide +kernel) rfl
set_option maxRecDepth 100000 in
theorem wC_155 : (Jvm.Cond.fieldLink "UnreadScript$Texts" (20 : Nat) "UnreadScript$Texts" "lengths" "[I") ∈ TB := lw_in (i := 155) (by decide +kernel) rfl
set_option maxRecDepth 100000 in
theorem wC_157 : (Jvm.Cond.fieldLink "UnreadScript$Texts" (23 : Nat) "UnreadScript$Texts" "wordTexts" "[I") ∈ TB := lw_in (i := 157) (by decide +kernel) rfl
set_option maxRecDepth 100000 in
theorem wC_158 : (Jvm.Cond.fieldLink "UnreadScript$Texts" (26 : Nat) "UnreadScript$Texts" "wordStarts" "[I") ∈ TB := lw_in (i := 158) (by decide +kernel) rfl
set_option maxRecDepth 100000 in
theorem wC_159 : (Jvm.Cond.fieldLink "UnreadScript$Texts" (29 : Nat) "UnreadScript$Texts" "wordLengths" "[I") ∈ TB := lw_in (i := 159) (by decide +kernel) rfl
set_option maxRecDepth 100000 in
theorem wC_160 : (Jvm.Cond.fieldLink "UnreadScript$Texts" (32 : Nat) "UnreadScript$Texts" "wholes" "[Z") ∈ TB := lw_in (i := 160) (by decide +kernel) rfl
set_option maxRecDepth 100000 in
theorem wC_162 : (Jvm.Cond.fieldLink "UnreadScript$Texts" (38 : Nat) "UnreadScript$Texts" "edges" "[I") ∈ TB := lw_in (i := 162) (by decide +kernel) rfl
set_option maxRecDepth 100000 in
theorem wC_186 : (Jvm.Cond.arrayClass Jvm.ClassFile.FieldType.boolean) ∈ TB := lw_in (i := 186) (by decide +kernel) rfl
set_option maxRecDepth 100000 in
theorem wC_192 : (Jvm.Cond.methodLink "UnreadScript$Tape" (3 : Nat) ({ cls := "java/lang/Object", name := "<init>", desc := "()V" } : Jvm.MethodName)) ∈ TB := lw_in (i := 192) (by decide +kernel) rfl
set_option maxRecDepth 100000 in
theorem wC_193 : (Jvm.Cond.fieldLink "UnreadScript$Tape" (11 : Nat) "UnreadScript$Tape" "bytes" "[B") ∈ TB := lw_in (i := 193) (by decide +kernel) rfl
set_option maxRecDepth 100000 in
theorem wC_209 : (Jvm.Cond.arrayClass Jvm.ClassFile.FieldType.byte) ∈ TB := lw_in (i := 209) (by decide +kernel) rfl
set_option maxRecDepth 100000 in
theorem wC_302 : (Jvm.Cond.methodLink "UnreadScript$Tongue" (5 : Nat) ({ cls := "java/lang/Object", name := "<init>", desc := "()V" } : Jvm.MethodName)) ∈ TB := lw_in (i := 302) (by decide +kernel) rfl
set_option maxRecDepth 100000 in
theorem wC_303 : (Jvm.Cond.classLink "UnreadScript$Tongue" (29 : Nat) "[[I") ∈ TB := lw_in (i := 303) (by decide +kernel) rfl
set_option maxRecDepth 100000 in
theorem wC_304 : (Jvm.Cond.fieldLink "UnreadScript$Tongue" (46 : Nat) "UnreadScript$Tongue" "texts" "LUnreadScript$Texts;") ∈ TB := lw_in (i := 304) (by decide +kernel) rfl
set_option maxRecDepth 100000 in
theorem wC_305 : (Jvm.Cond.fieldLink "UnreadScript$Tongue" (11 : Nat) "UnreadScript$Tongue" "words" "[J") ∈ TB := lw_in (i := 305) (by decide +kernel) rfl
set_option maxRecDepth 100000 in
theorem wC_307 : (Jvm.Cond.fieldLink "UnreadScript$Tongue" (15 : Nat) "UnreadScript$Tongue" "tabled" "[I") ∈ TB := lw_in (i := 307) (by decide +kernel) rfl
set_option maxRecDepth 100000 in
theorem wC_309 : (Jvm.Cond.fieldLink "UnreadScript$Tongue" (21 : Nat) "UnreadScript$Tongue" "times" "[I") ∈ TB := lw_in (i := 309) (by decide +kernel) rfl
set_option maxRecDepth 100000 in
theorem wC_310 : (Jvm.Cond.fieldLink "UnreadScript$Tongue" (24 : Nat) "UnreadScript$Tongue" "places" "[I") ∈ TB := lw_in (i := 310) (by decide +kernel) rfl
set_option maxRecDepth 100000 in
theorem wC_311 : (Jvm.Cond.fieldLink "UnreadScript$Tongue" (31 : Nat) "UnreadScript$Tongue" "rows" "[[I") ∈ TB := lw_in (i := 311) (by decide +kernel) rfl
set_option maxRecDepth 100000 in
theorem wC_312 : (Jvm.Cond.fieldLink "UnreadScript$Tongue" (34 : Nat) "UnreadScript$Tongue" "rowLengths" "[I") ∈ TB := lw_in (i := 312) (by decide +kernel) rfl
set_option maxRecDepth 100000 in
theorem wC_314 : (Jvm.Cond.fieldLink "UnreadScript$Tongue" (37 : Nat) "UnreadScript$Tongue" "sounds" "[I") ∈ TB := lw_in (i := 314) (by decide +kernel) rfl
set_option maxRecDepth 100000 in
theorem wC_315 : (Jvm.Cond.fieldLink "UnreadScript$Tongue" (40 : Nat) "UnreadScript$Tongue" "bestSounds" "[I") ∈ TB := lw_in (i := 315) (by decide +kernel) rfl
set_option maxRecDepth 100000 in
theorem wC_318 : (Jvm.Cond.fieldLink "UnreadScript$Tongue" (43 : Nat) "UnreadScript$Tongue" "order" "[I") ∈ TB := lw_in (i := 318) (by decide +kernel) rfl
set_option maxRecDepth 100000 in
theorem wC_350 : (Jvm.Cond.arrayClass Jvm.ClassFile.FieldType.long) ∈ TB := lw_in (i := 350) (by decide +kernel) rfl
set_option maxRecDepth 100000 in
theorem wC_399 : (Jvm.Cond.methodLink "UnreadScript$Sheets" (3 : Nat) ({ cls := "java/lang/Object", name := "<init>", desc := "()V" } : Jvm.MethodName)) ∈ TB := lw_in (i := 399) (by decide +kernel) rfl
set_option maxRecDepth 100000 in
theorem wC_400 : (Jvm.Cond.classLink "UnreadScript$Sheets" (18 : Nat) "[[I") ∈ TB := lw_in (i := 400) (by decide +kernel) rfl
set_option maxRecDepth 100000 in
theorem wC_401 : (Jvm.Cond.fieldLink "UnreadScript$Sheets" (11 : Nat) "UnreadScript$Sheets" "lanes" "[I") ∈ TB := lw_in (i := 401) (by decide +kernel) rfl
set_option maxRecDepth 100000 in
theorem wC_402 : (Jvm.Cond.fieldLink "UnreadScript$Sheets" (15 : Nat) "UnreadScript$Sheets" "lengths" "[I") ∈ TB := lw_in (i := 402) (by decide +kernel) rfl
set_option maxRecDepth 100000 in
theorem wC_403 : (Jvm.Cond.fieldLink "UnreadScript$Sheets" (20 : Nat) "UnreadScript$Sheets" "cells" "[[I") ∈ TB := lw_in (i := 403) (by decide +kernel) rfl
/-- what the constructor of UnreadScript$Sheets leaves -/
def Wn5 (g : GC) (h0 : Nat) (u : (Nat → Nat) × (Nat → Nat → Nat)) : va_W := (h0, .inr (5, [.ref (u.1 0), .ref (u.1 1), .ref (u.1 2)])) :: ((([] ++ [((u.1 0), .inl (g.2.2.1 0, 4, .inl (fun _ => 0)))]) ++ [((u.1 1), .inl (g.2.2.1 0, 4, .inl (upd (upd (upd (upd (fun _ => 0) 0 (-4)) 1 (-4)) 2 (-4)) 3 (-4))))]) ++ (((u.1 2), .inl (g.2.2.1 4, 4, .inr (.inr (.inr (.inr (fun i => if i < 4 then some ((u.2 0) i) else none)))))) :: (List.range 4).map (fun i => ((u.2 0) i, .inl (g.2.2.1 0, 60, .inl (fun _ => 0))))))
set_option maxRecDepth 100000 in
theorem K_init5 (l : Launch) (g : GC) (h0 : Nat) : CtM mX5_init 7 252 2 [] h0 (.inr (5, [.null, .null, .null])) g l (Wn5 g h0) := by
  refine ct_entry (lv := [(0, .ref h0)]) rfl rfl (Nat.le_of_ble_eq_true rfl) rfl ?_
  intro p e s m args below meth c A ls C hov hA hAe hl
  refine ct_aload C hl 0 dX5_init_0 rfl ?_
  refine ct_objInit C hl wC_399 wC_119 wC_120 (Nat.le_of_ble_eq_true rfl) (Nat.le_of_ble_eq_true rfl) rfl dX5_init_1 ?_
  refine ct_aload C hl 0 dX5_init_4 rfl ?_
  refine ct_iconst C (4) dX5_init_5 (by decide) ?_
  refine ct_newR C hA (atype := .int) (ty := .int) 0 wC_143 rfl rfl (fun _ _ h => h) (a0 := (4, .inl (fun _ => 0))) (fun _ => rfl) (by decide) rfl (Nat.le_of_ble_eq_true rfl) (Nat.le_of_ble_eq_true rfl) (Nat.le_of_ble_eq_true rfl) dX5_init_6 (fun q0 => ?_)
  refine ct_putFH C (fs' := [.ref q0, .null, .null]) (fty := (.array .int)) (v := .ref q0) (k := 0) G5 (Nat.le_of_ble_eq_true rfl) rfl rfl (by decide +kernel) rfl rfl (Nat.le_of_ble_eq_true rfl) rfl dX5_init_8 wC_401 ?_
  refine ct_aload C hl 0 dX5_init_11 rfl ?_
  refine ct_iconst C (4) dX5_init_12 (by decide) ?_
  refine ct_newR C hA (atype := .int) (ty := .int) 0 wC_143 rfl rfl (fun _ _ h => h) (a0 := (4, .inl (fun _ => 0))) (fun _ => rfl) (by decide) rfl (Nat.le_of_ble_eq_true rfl) (Nat.le_of_ble_eq_true rfl) (Nat.le_of_ble_eq_true rfl) dX5_init_13 (fun q1 => ?_)
  refine ct_dup C dX5_init_15 rfl ?_
  refine ct_iconst C (0) dX5_init_16 (by decide) ?_
  refine ct_bipush C (-4) dX5_init_17 (by decide) ?_
  refine ct_iastL C (nvin (k := 0) (by decide) (by decide)) dX5_init_19 ?_
  refine ct_dup C dX5_init_20 rfl ?_
  refine ct_iconst C (1) dX5_init_21 (by decide) ?_
  refine ct_bipush C (-4) dX5_init_22 (by decide) ?_
  refine ct_iastL C (nvin (k := 1) (by decide) (by decide)) dX5_init_24 ?_
  refine ct_dup C dX5_init_25 rfl ?_
  refine ct_iconst C (2) dX5_init_26 (by decide) ?_
  refine ct_bipush C (-4) dX5_init_27 (by decide) ?_
  refine ct_iastL C (nvin (k := 2) (by decide) (by decide)) dX5_init_29 ?_
  refine ct_dup C dX5_init_30 rfl ?_
  refine ct_iconst C (3) dX5_init_31 (by decide) ?_
  refine ct_bipush C (-4) dX5_init_32 (by decide) ?_
  refine ct_iastL C (nvin (k := 3) (by decide) (by decide)) dX5_init_34 ?_
  refine ct_putFH C (fs' := [.ref q0, .ref q1, .null]) (fty := (.array .int)) (v := .ref q1) (k := 1) G5 (Nat.le_of_ble_eq_true rfl) rfl rfl (by decide +kernel) rfl rfl (Nat.le_of_ble_eq_true rfl) rfl dX5_init_35 wC_402 ?_
  refine ct_aload C hl 0 dX5_init_38 rfl ?_
  refine ct_iconst C (4) dX5_init_39 (by decide) ?_
  refine ct_bipush C (60) dX5_init_40 (by decide) ?_
  refine ct_mnaR C hov hA wC_400 wC_143 (N' := 4) (K' := 60) (by decide) (by decide) rfl rfl (Nat.le_of_ble_eq_true rfl) (Nat.le_of_ble_eq_true rfl) (Nat.le_of_ble_eq_true rfl) (Nat.le_of_ble_eq_true rfl) (Nat.le_of_ble_eq_true rfl) dX5_init_42 (fun q2 r0 => ?_)
  refine ct_putFH C (fs' := [.ref q0, .ref q1, .ref q2]) (fty := (.array (.array .int))) (v := .ref q2) (k := 2) G5 (Nat.le_of_ble_eq_true rfl) rfl rfl (by decide +kernel) rfl rfl (Nat.le_of_ble_eq_true rfl) rfl dX5_init_46 wC_403 ?_
  exact ct_vret C (fun k => if k = 0 then q0 else if k = 1 then q1 else if k = 2 then q2 else 0, fun k => if k = 0 then r0 else fun _ => 0) rfl rfl dX5_init_49
/-- what the constructor of UnreadScript$Tape leaves -/
def Wn6 (g : GC) (h0 : Nat) (u : (Nat → Nat) × (Nat → Nat → Nat)) : va_W := (h0, .inr (6, [.ref (u.1 0), .int 0, .int 0, .int 0, .int 0])) :: ([] ++ [((u.1 0), .inl (g.2.2.1 2, 160, .inl (fun _ => 0)))])
set_option maxRecDepth 100000 in
theorem K_init6 (l : Launch) (g : GC) (h0 : Nat) : CtM mX6_init 1 160 2 [] h0 (.inr (6, [.null, .int 0, .int 0, .int 0, .int 0])) g l (Wn6 g h0) := by
  refine ct_entry (lv := [(0, .ref h0)]) rfl rfl (Nat.le_of_ble_eq_true rfl) rfl ?_
  intro p e s m args below meth c A ls C hov hA hAe hl
  refine ct_aload C hl 0 dX6_init_0 rfl ?_
  refine ct_objInit C hl wC_192 wC_119 wC_120 (Nat.le_of_ble_eq_true rfl) (Nat.le_of_ble_eq_true rfl) rfl dX6_init_1 ?_
  refine ct_aload C hl 0 dX6_init_4 rfl ?_
  refine ct_sipush C (160) dX6_init_5 (by decide) ?_
  refine ct_newR C hA (atype := .byte) (ty := .byte) 2 wC_209 rfl rfl (fun _ _ h => h) (a0 := (160, .inl (fun _ => 0))) (fun _ => rfl) (by decide) rfl (Nat.le_of_ble_eq_true rfl) (Nat.le_of_ble_eq_true rfl) (Nat.le_of_ble_eq_true rfl) dX6_init_8 (fun q0 => ?_)
  refine ct_putFH C (fs' := [.ref q0, .int 0, .int 0, .int 0, .int 0]) (fty := (.array .byte)) (v := .ref q0) (k := 0) G6 (Nat.le_of_ble_eq_true rfl) rfl rfl (by decide +kernel) rfl rfl (Nat.le_of_ble_eq_true rfl) rfl dX6_init_10 wC_193 ?_
  exact ct_vret C (fun k => if k = 0 then q0 else 0, fun k => fun _ => 0) rfl rfl dX6_init_13
/-- what the constructor of UnreadScript$Texts leaves -/
def Wn7 (g : GC) (h0 a1 : Nat) (u : (Nat → Nat) × (Nat → Nat → Nat)) : va_W := (h0, .inr (7, [.ref a1, .ref (u.1 0), .ref (u.1 1), .ref (u.1 2), .int 0, .ref (u.1 3), .ref (u.1 4), .ref (u.1 5), .ref (u.1 6), .int 0, .ref (u.1 7)])) :: (((((((([] ++ [((u.1 0), .inl (g.2.2.1 0, 24, .inl (fun _ => 0)))]) ++ (((u.1 1), .inl (g.2.2.1 4, 8, .inr (.inr (.inr (.inr (fun i => if i < 8 then some ((u.2 0) i) else none)))))) :: (List.range 8).map (fun i => ((u.2 0) i, .inl (g.2.2.1 0, 24, .inl (fun _ => 0)))))) ++ [((u.1 2), .inl (g.2.2.1 0, 8, .inl (fun _ => 0)))]) ++ [((u.1 3), .inl (g.2.2.1 0, 96, .inl (fun _ => 0)))]) ++ [((u.1 4), .inl (g.2.2.1 0, 96, .inl (fun _ => 0)))]) ++ [((u.1 5), .inl (g.2.2.1 0, 96, .inl (fun _ => 0)))]) ++ [((u.1 6), .inl (g.2.2.1 1, 96, .inl (fun _ => 0)))]) ++ [((u.1 7), .inl (g.2.2.1 0, 24, .inl (fun _ => 0)))])
set_option maxRecDepth 100000 in
theorem K_init7 (l : Launch) (g : GC) (h0 a1 : Nat) : CtM mX7_init 16 640 2 [.ref a1] h0 (.inr (7, [.null, .null, .null, .null, .int 0, .null, .null, .null, .null, .int 0, .null])) g l (Wn7 g h0 a1) := by
  refine ct_entry (lv := [(0, .ref h0), (1, .ref a1)]) rfl rfl (Nat.le_of_ble_eq_true rfl) rfl ?_
  intro p e s m args below meth c A ls C hov hA hAe hl
  refine ct_aload C hl 0 dX7_init_0 rfl ?_
  refine ct_objInit C hl wC_149 wC_119 wC_120 (Nat.le_of_ble_eq_true rfl) (Nat.le_of_ble_eq_true rfl) rfl dX7_init_1 ?_
  refine ct_aload C hl 0 dX7_init_4 rfl ?_
  refine ct_bipush C (24) dX7_init_5 (by decide) ?_
  refine ct_newR C hA (atype := .int) (ty := .int) 0 wC_143 rfl rfl (fun _ _ h => h) (a0 := (24, .inl (fun _ => 0))) (fun _ => rfl) (by decide) rfl (Nat.le_of_ble_eq_true rfl) (Nat.le_of_ble_eq_true rfl) (Nat.le_of_ble_eq_true rfl) dX7_init_7 (fun q0 => ?_)
  refine ct_putFH C (fs' := [.null, .ref q0, .null, .null, .int 0, .null, .null, .null, .null, .int 0, .null]) (fty := (.array .int)) (v := .ref q0) (k := 1) G7 (Nat.le_of_ble_eq_true rfl) rfl rfl (by decide +kernel) rfl rfl (Nat.le_of_ble_eq_true rfl) rfl dX7_init_9 wC_153 ?_
  refine ct_aload C hl 0 dX7_init_12 rfl ?_
  refine ct_bipush C (8) dX7_init_13 (by decide) ?_
  refine ct_bipush C (24) dX7_init_15 (by decide) ?_
  refine ct_mnaR C hov hA wC_150 wC_143 (N' := 8) (K' := 24) (by decide) (by decide) rfl rfl (Nat.le_of_ble_eq_true rfl) (Nat.le_of_ble_eq_true rfl) (Nat.le_of_ble_eq_true rfl) (Nat.le_of_ble_eq_true rfl) (Nat.le_of_ble_eq_true rfl) dX7_init_17 (fun q1 r0 => ?_)
  refine ct_putFH C (fs' := [.null, .ref q0, .ref q1, .null, .int 0, .null, .null, .null, .null, .int 0, .null]) (fty := (.array (.array .int))) (v := .ref q1) (k := 2) G7 (Nat.le_of_ble_eq_true rfl) rfl rfl (by decide +kernel) rfl rfl (Nat.le_of_ble_eq_true rfl) rfl dX7_init_21 wC_154 ?_
  refine ct_aload C hl 0 dX7_init_24 rfl ?_
  refine ct_bipush C (8) dX7_init_25 (by decide) ?_
  refine ct_newR C hA (atype := .int) (ty := .int) 0 wC_143 rfl rfl (fun _ _ h => h) (a0 := (8, .inl (fun _ => 0))) (fun _ => rfl) (by decide) rfl (Nat.le_of_ble_eq_true rfl) (Nat.le_of_ble_eq_true rfl) (Nat.le_of_ble_eq_true rfl) dX7_init_27 (fun q2 => ?_)
  refine ct_putFH C (fs' := [.null, .ref q0, .ref q1, .ref q2, .int 0, .null, .null, .null, .null, .int 0, .null]) (fty := (.array .int)) (v := .ref q2) (k := 3) G7 (Nat.le_of_ble_eq_true rfl) rfl rfl (by decide +kernel) rfl rfl (Nat.le_of_ble_eq_true rfl) rfl dX7_init_29 wC_155 ?_
  refine ct_aload C hl 0 dX7_init_32 rfl ?_
  refine ct_bipush C (96) dX7_init_33 (by decide) ?_
  refine ct_newR C hA (atype := .int) (ty := .int) 0 wC_143 rfl rfl (fun _ _ h => h) (a0 := (96, .inl (fun _ => 0))) (fun _ => rfl) (by decide) rfl (Nat.le_of_ble_eq_true rfl) (Nat.le_of_ble_eq_true rfl) (Nat.le_of_ble_eq_true rfl) dX7_init_35 (fun q3 => ?_)
  refine ct_putFH C (fs' := [.null, .ref q0, .ref q1, .ref q2, .int 0, .ref q3, .null, .null, .null, .int 0, .null]) (fty := (.array .int)) (v := .ref q3) (k := 5) G7 (Nat.le_of_ble_eq_true rfl) rfl rfl (by decide +kernel) rfl rfl (Nat.le_of_ble_eq_true rfl) rfl dX7_init_37 wC_157 ?_
  refine ct_aload C hl 0 dX7_init_40 rfl ?_
  refine ct_bipush C (96) dX7_init_41 (by decide) ?_
  refine ct_newR C hA (atype := .int) (ty := .int) 0 wC_143 rfl rfl (fun _ _ h => h) (a0 := (96, .inl (fun _ => 0))) (fun _ => rfl) (by decide) rfl (Nat.le_of_ble_eq_true rfl) (Nat.le_of_ble_eq_true rfl) (Nat.le_of_ble_eq_true rfl) dX7_init_43 (fun q4 => ?_)
  refine ct_putFH C (fs' := [.null, .ref q0, .ref q1, .ref q2, .int 0, .ref q3, .ref q4, .null, .null, .int 0, .null]) (fty := (.array .int)) (v := .ref q4) (k := 6) G7 (Nat.le_of_ble_eq_true rfl) rfl rfl (by decide +kernel) rfl rfl (Nat.le_of_ble_eq_true rfl) rfl dX7_init_45 wC_158 ?_
  refine ct_aload C hl 0 dX7_init_48 rfl ?_
  refine ct_bipush C (96) dX7_init_49 (by decide) ?_
  refine ct_newR C hA (atype := .int) (ty := .int) 0 wC_143 rfl rfl (fun _ _ h => h) (a0 := (96, .inl (fun _ => 0))) (fun _ => rfl) (by decide) rfl (Nat.le_of_ble_eq_true rfl) (Nat.le_of_ble_eq_true rfl) (Nat.le_of_ble_eq_true rfl) dX7_init_51 (fun q5 => ?_)
  refine ct_putFH C (fs' := [.null, .ref q0, .ref q1, .ref q2, .int 0, .ref q3, .ref q4, .ref q5, .null, .int 0, .null]) (fty := (.array .int)) (v := .ref q5) (k := 7) G7 (Nat.le_of_ble_eq_true rfl) rfl rfl (by decide +kernel) rfl rfl (Nat.le_of_ble_eq_true rfl) rfl dX7_init_53 wC_159 ?_
  refine ct_aload C hl 0 dX7_init_56 rfl ?_
  refine ct_bipush C (96) dX7_init_57 (by decide) ?_
  refine ct_newR C hA (atype := .boolean) (ty := .boolean) 1 wC_186 rfl rfl (fun _ _ h => h) (a0 := (96, .inl (fun _ => 0))) (fun _ => rfl) (by decide) rfl (Nat.le_of_ble_eq_true rfl) (Nat.le_of_ble_eq_true rfl) (Nat.le_of_ble_eq_true rfl) dX7_init_59 (fun q6 => ?_)
  refine ct_putFH C (fs' := [.null, .ref q0, .ref q1, .ref q2, .int 0, .ref q3, .ref q4, .ref q5, .ref q6, .int 0, .null]) (fty := (.array .boolean)) (v := .ref q6) (k := 8) G7 (Nat.le_of_ble_eq_true rfl) rfl rfl (by decide +kernel) rfl rfl (Nat.le_of_ble_eq_true rfl) rfl dX7_init_61 wC_160 ?_
  refine ct_aload C hl 0 dX7_init_64 rfl ?_
  refine ct_bipush C (24) dX7_init_65 (by decide) ?_
  refine ct_newR C hA (atype := .int) (ty := .int) 0 wC_143 rfl rfl (fun _ _ h => h) (a0 := (24, .inl (fun _ => 0))) (fun _ => rfl) (by decide) rfl (Nat.le_of_ble_eq_true rfl) (Nat.le_of_ble_eq_true rfl) (Nat.le_of_ble_eq_true rfl) dX7_init_67 (fun q7 => ?_)
  refine ct_putFH C (fs' := [.null, .ref q0, .ref q1, .ref q2, .int 0, .ref q3, .ref q4, .ref q5, .ref q6, .int 0, .ref q7]) (fty := (.array .int)) (v := .ref q7) (k := 10) G7 (Nat.le_of_ble_eq_true rfl) rfl rfl (by decide +kernel) rfl rfl (Nat.le_of_ble_eq_true rfl) rfl dX7_init_69 wC_162 ?_
  refine ct_aload C hl 0 dX7_init_72 rfl ?_
  refine ct_aload C hl 1 dX7_init_73 rfl ?_
  refine ct_putFH C (fs' := [.ref a1, .ref q0, .ref q1, .ref q2, .int 0, .ref q3, .ref q4, .ref q5, .ref q6, .int 0, .ref q7]) (fty := (.object "UnreadScript$Forms")) (v := .ref a1) (k := 0) G7 (Nat.le_of_ble_eq_true rfl) rfl rfl (by decide +kernel) rfl rfl (Nat.le_of_ble_eq_true rfl) rfl dX7_init_74 wC_152 ?_
  exact ct_vret C (fun k => if k = 0 then q0 else if k = 1 then q1 else if k = 2 then q2 else if k = 3 then q3 else if k = 4 then q4 else if k = 5 then q5 else if k = 6 then q6 else if k = 7 then q7 else 0, fun k => if k = 0 then r0 else fun _ => 0) rfl rfl dX7_init_77
/-- what the constructor of UnreadScript$Tongue leaves -/
def Wn8 (g : GC) (h0 a1 : Nat) (u : (Nat → Nat) × (Nat → Nat → Nat)) : va_W := (h0, .inr (8, [.ref a1, .ref (u.1 0), .int 0, .ref (u.1 1), .int 0, .ref (u.1 2), .ref (u.1 3), .ref (u.1 4), .ref (u.1 5), .int 0, .ref (u.1 6), .ref (u.1 7), .int 0, .int 0, .ref (u.1 8)])) :: ((((((((([] ++ [((u.1 0), .inl (g.2.2.1 3, 128, .inr (.inl (fun _ => 0))))]) ++ [((u.1 1), .inl (g.2.2.1 0, 6, .inl (fun _ => 0)))]) ++ [((u.1 2), .inl (g.2.2.1 0, 24, .inl (fun _ => 0)))]) ++ [((u.1 3), .inl (g.2.2.1 0, 24, .inl (fun _ => 0)))]) ++ (((u.1 4), .inl (g.2.2.1 4, 96, .inr (.inr (.inr (.inr (fun i => if i < 96 then some ((u.2 0) i) else none)))))) :: (List.range 96).map (fun i => ((u.2 0) i, .inl (g.2.2.1 0, 6, .inl (fun _ => 0)))))) ++ [((u.1 5), .inl (g.2.2.1 0, 96, .inl (fun _ => 0)))]) ++ [((u.1 6), .inl (g.2.2.1 0, 6, .inl (fun _ => 0)))]) ++ [((u.1 7), .inl (g.2.2.1 0, 6, .inl (fun _ => 0)))]) ++ [((u.1 8), .inl (g.2.2.1 0, 6, .inl (fun _ => 0)))])
set_option maxRecDepth 100000 in
theorem K_init8 (l : Launch) (g : GC) (h0 a1 : Nat) : CtM mX8_init 105 968 2 [.ref a1] h0 (.inr (8, [.null, .null, .int 0, .null, .int 0, .null, .null, .null, .null, .int 0, .null, .null, .int 0, .int 0, .null])) g l (Wn8 g h0 a1) := by
  refine ct_entry (lv := [(0, .ref h0), (1, .ref a1)]) rfl rfl (Nat.le_of_ble_eq_true rfl) rfl ?_
  intro p e s m args below meth c A ls C hov hA hAe hl
  refine ct_aload C hl 0 dX8_init_0 rfl ?_
  refine ct_objInit C hl wC_302 wC_119 wC_120 (Nat.le_of_ble_eq_true rfl) (Nat.le_of_ble_eq_true rfl) rfl dX8_init_1 ?_
  refine ct_aload C hl 0 dX8_init_4 rfl ?_
  refine ct_sipush C (128) dX8_init_5 (by decide) ?_
  refine ct_newR C hA (atype := .long) (ty := .long) 3 wC_350 rfl rfl (fun _ _ h => h) (a0 := (128, .inr (.inl (fun _ => 0)))) (fun _ => rfl) (by decide) rfl (Nat.le_of_ble_eq_true rfl) (Nat.le_of_ble_eq_true rfl) (Nat.le_of_ble_eq_true rfl) dX8_init_8 (fun q0 => ?_)
  refine ct_putFH C (fs' := [.null, .ref q0, .int 0, .null, .int 0, .null, .null, .null, .null, .int 0, .null, .null, .int 0, .int 0, .null]) (fty := (.array .long)) (v := .ref q0) (k := 1) G8 (Nat.le_of_ble_eq_true rfl) rfl rfl (by decide +kernel) rfl rfl (Nat.le_of_ble_eq_true rfl) rfl dX8_init_10 wC_305 ?_
  refine ct_aload C hl 0 dX8_init_13 rfl ?_
  refine ct_bipush C (6) dX8_init_14 (by decide) ?_
  refine ct_newR C hA (atype := .int) (ty := .int) 0 wC_143 rfl rfl (fun _ _ h => h) (a0 := (6, .inl (fun _ => 0))) (fun _ => rfl) (by decide) rfl (Nat.le_of_ble_eq_true rfl) (Nat.le_of_ble_eq_true rfl) (Nat.le_of_ble_eq_true rfl) dX8_init_16 (fun q1 => ?_)
  refine ct_putFH C (fs' := [.null, .ref q0, .int 0, .ref q1, .int 0, .null, .null, .null, .null, .int 0, .null, .null, .int 0, .int 0, .null]) (fty := (.array .int)) (v := .ref q1) (k := 3) G8 (Nat.le_of_ble_eq_true rfl) rfl rfl (by decide +kernel) rfl rfl (Nat.le_of_ble_eq_true rfl) rfl dX8_init_18 wC_307 ?_
  refine ct_aload C hl 0 dX8_init_21 rfl ?_
  refine ct_bipush C (24) dX8_init_22 (by decide) ?_
  refine ct_newR C hA (atype := .int) (ty := .int) 0 wC_143 rfl rfl (fun _ _ h => h) (a0 := (24, .inl (fun _ => 0))) (fun _ => rfl) (by decide) rfl (Nat.le_of_ble_eq_true rfl) (Nat.le_of_ble_eq_true rfl) (Nat.le_of_ble_eq_true rfl) dX8_init_24 (fun q2 => ?_)
  refine ct_putFH C (fs' := [.null, .ref q0, .int 0, .ref q1, .int 0, .ref q2, .null, .null, .null, .int 0, .null, .null, .int 0, .int 0, .null]) (fty := (.array .int)) (v := .ref q2) (k := 5) G8 (Nat.le_of_ble_eq_true rfl) rfl rfl (by decide +kernel) rfl rfl (Nat.le_of_ble_eq_true rfl) rfl dX8_init_26 wC_309 ?_
  refine ct_aload C hl 0 dX8_init_29 rfl ?_
  refine ct_bipush C (24) dX8_init_30 (by decide) ?_
  refine ct_newR C hA (atype := .int) (ty := .int) 0 wC_143 rfl rfl (fun _ _ h => h) (a0 := (24, .inl (fun _ => 0))) (fun _ => rfl) (by decide) rfl (Nat.le_of_ble_eq_true rfl) (Nat.le_of_ble_eq_true rfl) (Nat.le_of_ble_eq_true rfl) dX8_init_32 (fun q3 => ?_)
  refine ct_putFH C (fs' := [.null, .ref q0, .int 0, .ref q1, .int 0, .ref q2, .ref q3, .null, .null, .int 0, .null, .null, .int 0, .int 0, .null]) (fty := (.array .int)) (v := .ref q3) (k := 6) G8 (Nat.le_of_ble_eq_true rfl) rfl rfl (by decide +kernel) rfl rfl (Nat.le_of_ble_eq_true rfl) rfl dX8_init_34 wC_310 ?_
  refine ct_aload C hl 0 dX8_init_37 rfl ?_
  refine ct_bipush C (96) dX8_init_38 (by decide) ?_
  refine ct_bipush C (6) dX8_init_40 (by decide) ?_
  refine ct_mnaR C hov hA wC_303 wC_143 (N' := 96) (K' := 6) (by decide) (by decide) rfl rfl (Nat.le_of_ble_eq_true rfl) (Nat.le_of_ble_eq_true rfl) (Nat.le_of_ble_eq_true rfl) (Nat.le_of_ble_eq_true rfl) (Nat.le_of_ble_eq_true rfl) dX8_init_42 (fun q4 r0 => ?_)
  refine ct_putFH C (fs' := [.null, .ref q0, .int 0, .ref q1, .int 0, .ref q2, .ref q3, .ref q4, .null, .int 0, .null, .null, .int 0, .int 0, .null]) (fty := (.array (.array .int))) (v := .ref q4) (k := 7) G8 (Nat.le_of_ble_eq_true rfl) rfl rfl (by decide +kernel) rfl rfl (Nat.le_of_ble_eq_true rfl) rfl dX8_init_46 wC_311 ?_
  refine ct_aload C hl 0 dX8_init_49 rfl ?_
  refine ct_bipush C (96) dX8_init_50 (by decide) ?_
  refine ct_newR C hA (atype := .int) (ty := .int) 0 wC_143 rfl rfl (fun _ _ h => h) (a0 := (96, .inl (fun _ => 0))) (fun _ => rfl) (by decide) rfl (Nat.le_of_ble_eq_true rfl) (Nat.le_of_ble_eq_true rfl) (Nat.le_of_ble_eq_true rfl) dX8_init_52 (fun q5 => ?_)
  refine ct_putFH C (fs' := [.null, .ref q0, .int 0, .ref q1, .int 0, .ref q2, .ref q3, .ref q4, .ref q5, .int 0, .null, .null, .int 0, .int 0, .null]) (fty := (.array .int)) (v := .ref q5) (k := 8) G8 (Nat.le_of_ble_eq_true rfl) rfl rfl (by decide +kernel) rfl rfl (Nat.le_of_ble_eq_true rfl) rfl dX8_init_54 wC_312 ?_
  refine ct_aload C hl 0 dX8_init_57 rfl ?_
  refine ct_bipush C (6) dX8_init_58 (by decide) ?_
  refine ct_newR C hA (atype := .int) (ty := .int) 0 wC_143 rfl rfl (fun _ _ h => h) (a0 := (6, .inl (fun _ => 0))) (fun _ => rfl) (by decide) rfl (Nat.le_of_ble_eq_true rfl) (Nat.le_of_ble_eq_true rfl) (Nat.le_of_ble_eq_true rfl) dX8_init_60 (fun q6 => ?_)
  refine ct_putFH C (fs' := [.null, .ref q0, .int 0, .ref q1, .int 0, .ref q2, .ref q3, .ref q4, .ref q5, .int 0, .ref q6, .null, .int 0, .int 0, .null]) (fty := (.array .int)) (v := .ref q6) (k := 10) G8 (Nat.le_of_ble_eq_true rfl) rfl rfl (by decide +kernel) rfl rfl (Nat.le_of_ble_eq_true rfl) rfl dX8_init_62 wC_314 ?_
  refine ct_aload C hl 0 dX8_init_65 rfl ?_
  refine ct_bipush C (6) dX8_init_66 (by decide) ?_
  refine ct_newR C hA (atype := .int) (ty := .int) 0 wC_143 rfl rfl (fun _ _ h => h) (a0 := (6, .inl (fun _ => 0))) (fun _ => rfl) (by decide) rfl (Nat.le_of_ble_eq_true rfl) (Nat.le_of_ble_eq_true rfl) (Nat.le_of_ble_eq_true rfl) dX8_init_68 (fun q7 => ?_)
  refine ct_putFH C (fs' := [.null, .ref q0, .int 0, .ref q1, .int 0, .ref q2, .ref q3, .ref q4, .ref q5, .int 0, .ref q6, .ref q7, .int 0, .int 0, .null]) (fty := (.array .int)) (v := .ref q7) (k := 11) G8 (Nat.le_of_ble_eq_true rfl) rfl rfl (by decide +kernel) rfl rfl (Nat.le_of_ble_eq_true rfl) rfl dX8_init_70 wC_315 ?_
  refine ct_aload C hl 0 dX8_init_73 rfl ?_
  refine ct_bipush C (6) dX8_init_74 (by decide) ?_
  refine ct_newR C hA (atype := .int) (ty := .int) 0 wC_143 rfl rfl (fun _ _ h => h) (a0 := (6, .inl (fun _ => 0))) (fun _ => rfl) (by decide) rfl (Nat.le_of_ble_eq_true rfl) (Nat.le_of_ble_eq_true rfl) (Nat.le_of_ble_eq_true rfl) dX8_init_76 (fun q8 => ?_)
  refine ct_putFH C (fs' := [.null, .ref q0, .int 0, .ref q1, .int 0, .ref q2, .ref q3, .ref q4, .ref q5, .int 0, .ref q6, .ref q7, .int 0, .int 0, .ref q8]) (fty := (.array .int)) (v := .ref q8) (k := 14) G8 (Nat.le_of_ble_eq_true rfl) rfl rfl (by decide +kernel) rfl rfl (Nat.le_of_ble_eq_true rfl) rfl dX8_init_78 wC_318 ?_
  refine ct_aload C hl 0 dX8_init_81 rfl ?_
  refine ct_aload C hl 1 dX8_init_82 rfl ?_
  refine ct_putFH C (fs' := [.ref a1, .ref q0, .int 0, .ref q1, .int 0, .ref q2, .ref q3, .ref q4, .ref q5, .int 0, .ref q6, .ref q7, .int 0, .int 0, .ref q8]) (fty := (.object "UnreadScript$Texts")) (v := .ref a1) (k := 0) G8 (Nat.le_of_ble_eq_true rfl) rfl rfl (by decide +kernel) rfl rfl (Nat.le_of_ble_eq_true rfl) rfl dX8_init_83 wC_304 ?_
  exact ct_vret C (fun k => if k = 0 then q0 else if k = 1 then q1 else if k = 2 then q2 else if k = 3 then q3 else if k = 4 then q4 else if k = 5 then q5 else if k = 6 then q6 else if k = 7 then q7 else if k = 8 then q8 else 0, fun k => if k = 0 then r0 else fun _ => 0) rfl rfl dX8_init_86
