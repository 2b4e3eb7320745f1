/-! ===== constructors, printed by gen_ct.py ===== -/
set_option maxRecDepth 100000 in
theorem wC_215 : (Jvm.Cond.methodLink "UnreadScript$Kinship" (3 : Nat) ({ cls := "java/lang/Object", name := "<init>", desc := "()V" } : Jvm.MethodName)) ∈ TB := lw_in (i := 215) (by decide +kernel) rfl
set_option maxRecDepth 100000 in
theorem wC_216 : (Jvm.Cond.classLink "UnreadScript$Kinship" (11 : Nat) "[[I") ∈ TB := lw_in (i := 216) (by decide +kernel) rfl
set_option maxRecDepth 100000 in
theorem wC_217 : (Jvm.Cond.fieldLink "UnreadScript$Kinship" (39 : Nat) "UnreadScript$Kinship" "forms" "LUnreadScript$Forms;") ∈ TB := lw_in (i := 217) (by decide +kernel) rfl
set_option maxRecDepth 100000 in
theorem wC_218 : (Jvm.Cond.fieldLink "UnreadScript$Kinship" (43 : Nat) "UnreadScript$Kinship" "texts" "LUnreadScript$Texts;") ∈ TB := lw_in (i := 218) (by decide +kernel) rfl
set_option maxRecDepth 100000 in
theorem wC_219 : (Jvm.Cond.fieldLink "UnreadScript$Kinship" (13 : Nat) "UnreadScript$Kinship" "told" "[[I") ∈ TB := lw_in (i := 219) (by decide +kernel) rfl
set_option maxRecDepth 100000 in
theorem wC_220 : (Jvm.Cond.fieldLink "UnreadScript$Kinship" (18 : Nat) "UnreadScript$Kinship" "akin" "[[I") ∈ TB := lw_in (i := 220) (by decide +kernel) rfl
set_option maxRecDepth 100000 in
theorem wC_221 : (Jvm.Cond.fieldLink "UnreadScript$Kinship" (21 : Nat) "UnreadScript$Kinship" "apart" "[[I") ∈ TB := lw_in (i := 221) (by decide +kernel) rfl
set_option maxRecDepth 100000 in
theorem wC_222 : (Jvm.Cond.fieldLink "UnreadScript$Kinship" (26 : Nat) "UnreadScript$Kinship" "endings" "[I") ∈ TB := lw_in (i := 222) (by decide +kernel) rfl
set_option maxRecDepth 100000 in
theorem wC_223 : (Jvm.Cond.fieldLink "UnreadScript$Kinship" (30 : Nat) "UnreadScript$Kinship" "seated" "[I") ∈ TB := lw_in (i := 223) (by decide +kernel) rfl
set_option maxRecDepth 100000 in
theorem wC_224 : (Jvm.Cond.fieldLink "UnreadScript$Kinship" (33 : Nat) "UnreadScript$Kinship" "row" "[I") ∈ TB := lw_in (i := 224) (by decide +kernel) rfl
set_option maxRecDepth 100000 in
theorem wC_225 : (Jvm.Cond.fieldLink "UnreadScript$Kinship" (36 : Nat) "UnreadScript$Kinship" "leastRow" "[I") ∈ TB := lw_in (i := 225) (by decide +kernel) rfl
set_option maxRecDepth 100000 in
theorem wC_256 : (Jvm.Cond.methodLink "UnreadScript$Accounts" (3 : Nat) ({ cls := "java/lang/Object", name := "<init>", desc := "()V" } : Jvm.MethodName)) ∈ TB := lw_in (i := 256) (by decide +kernel) rfl
set_option maxRecDepth 100000 in
theorem wC_257 : (Jvm.Cond.classLink "UnreadScript$Accounts" (11 : Nat) "[[I") ∈ TB := lw_in (i := 257) (by decide +kernel) rfl
set_option maxRecDepth 100000 in
theorem wC_258 : (Jvm.Cond.fieldLink "UnreadScript$Accounts" (13 : Nat) "UnreadScript$Accounts" "excess" "[[I") ∈ TB := lw_in (i := 258) (by decide +kernel) rfl
set_option maxRecDepth 100000 in
theorem wC_260 : (Jvm.Cond.fieldLink "UnreadScript$Accounts" (16 : Nat) "UnreadScript$Accounts" "picks" "[I") ∈ TB := lw_in (i := 260) (by decide +kernel) rfl
set_option maxRecDepth 100000 in
theorem wC_261 : (Jvm.Cond.fieldLink "UnreadScript$Accounts" (20 : Nat) "UnreadScript$Accounts" "firstPicks" "[I") ∈ TB := lw_in (i := 261) (by decide +kernel) rfl
set_option maxRecDepth 100000 in
theorem wC_262 : (Jvm.Cond.fieldLink "UnreadScript$Accounts" (23 : Nat) "UnreadScript$Accounts" "seen" "[I") ∈ TB := lw_in (i := 262) (by decide +kernel) rfl
set_option maxRecDepth 100000 in
theorem wC_282 : (Jvm.Cond.methodLink "UnreadScript$Names" (3 : Nat) ({ cls := "java/lang/Object", name := "<init>", desc := "()V" } : Jvm.MethodName)) ∈ TB := lw_in (i := 282) (by decide +kernel) rfl
set_option maxRecDepth 100000 in
theorem wC_283 : (Jvm.Cond.classLink "UnreadScript$Names" (11 : Nat) "[[I") ∈ TB := lw_in (i := 283) (by decide +kernel) rfl
set_option maxRecDepth 100000 in
theorem wC_284 : (Jvm.Cond.fieldLink "UnreadScript$Names" (20 : Nat) "UnreadScript$Names" "texts" "LUnreadScript$Texts;") ∈ TB := lw_in (i := 284) (by decide +kernel) rfl
set_option maxRecDepth 100000 in
theorem wC_285 : (Jvm.Cond.fieldLink "UnreadScript$Names" (13 : Nat) "UnreadScript$Names" "sounds" "[[I") ∈ TB := lw_in (i := 285) (by decide +kernel) rfl
set_option maxRecDepth 100000 in
theorem wC_286 : (Jvm.Cond.fieldLink "UnreadScript$Names" (16 : Nat) "UnreadScript$Names" "lengths" "[I") ∈ TB := lw_in (i := 286) (by decide +kernel) rfl
set_option maxRecDepth 100000 in
theorem wC_356 : (Jvm.Cond.methodLink "UnreadScript$Claims" (3 : Nat) ({ cls := "java/lang/Object", name := "<init>", desc := "()V" } : Jvm.MethodName)) ∈ TB := lw_in (i := 356) (by decide +kernel) rfl
set_option maxRecDepth 100000 in
theorem wC_357 : (Jvm.Cond.fieldLink "UnreadScript$Claims" (30 : Nat) "UnreadScript$Claims" "tape" "LUnreadScript$Tape;") ∈ TB := lw_in (i := 357) (by decide +kernel) rfl
set_option maxRecDepth 100000 in
theorem wC_358 : (Jvm.Cond.fieldLink "UnreadScript$Claims" (11 : Nat) "UnreadScript$Claims" "kinds" "[I") ∈ TB := lw_in (i := 358) (by decide +kernel) rfl
set_option maxRecDepth 100000 in
theorem wC_359 : (Jvm.Cond.fieldLink "UnreadScript$Claims" (15 : Nat) "UnreadScript$Claims" "numbers" "[I") ∈ TB := lw_in (i := 359) (by decide +kernel) rfl
set_option maxRecDepth 100000 in
theorem wC_360 : (Jvm.Cond.fieldLink "UnreadScript$Claims" (18 : Nat) "UnreadScript$Claims" "came" "[I") ∈ TB := lw_in (i := 360) (by decide +kernel) rfl
set_option maxRecDepth 100000 in
theorem wC_361 : (Jvm.Cond.fieldLink "UnreadScript$Claims" (21 : Nat) "UnreadScript$Claims" "gone" "[I") ∈ TB := lw_in (i := 361) (by decide +kernel) rfl
set_option maxRecDepth 100000 in
theorem wC_362 : (Jvm.Cond.fieldLink "UnreadScript$Claims" (24 : Nat) "UnreadScript$Claims" "hangsOn" "[I") ∈ TB := lw_in (i := 362) (by decide +kernel) rfl
set_option maxRecDepth 100000 in
theorem wC_363 : (Jvm.Cond.fieldLink "UnreadScript$Claims" (27 : Nat) "UnreadScript$Claims" "depths" "[I") ∈ TB := lw_in (i := 363) (by decide +kernel) rfl
/-- what the constructor of UnreadScript$Accounts leaves -/
def Wn0 (g : GC) (h0 : Nat) (u : (Nat → Nat) × (Nat → Nat → Nat)) : va_W := (h0, .inr (0, [.ref (u.1 0), .int 0, .ref (u.1 1), .ref (u.1 2), .ref (u.1 3), .int 0])) :: (((([] ++ (((u.1 0), .inl (g.2.2.1 4, 8, .inr (.inr (.inr (.inr (fun i => if i < 8 then some ((u.2 0) i) else none)))))) :: (List.range 8).map (fun i => ((u.2 0) i, .inl (g.2.2.1 0, 4, .inl (fun _ => 0)))))) ++ [((u.1 1), .inl (g.2.2.1 0, 4, .inl (fun _ => 0)))]) ++ [((u.1 2), .inl (g.2.2.1 0, 4, .inl (fun _ => 0)))]) ++ [((u.1 3), .inl (g.2.2.1 0, 4, .inl (fun _ => 0)))])
set_option maxRecDepth 100000 in
theorem K_init0 (l : Launch) (g : GC) (h0 : Nat) : CtM mX0_init 12 52 2 [] h0 (.inr (0, [.null, .int 0, .null, .null, .null, .int 0])) g l (Wn0 g h0) := by
  refine ct_entry (lv := [(0, .ref h0)]) rfl rfl (Nat.le_of_ble_eq_true rfl) rfl ?_
  intro p e s m args below meth c A ls C hov hA hAe hl
  refine ct_aload C hl 0 dX0_init_0 rfl ?_
  refine ct_objInit C hl wC_256 wC_119 wC_120 (Nat.le_of_ble_eq_true rfl) (Nat.le_of_ble_eq_true rfl) rfl dX0_init_1 ?_
  refine ct_aload C hl 0 dX0_init_4 rfl ?_
  refine ct_bipush C (8) dX0_init_5 (by decide) ?_
  refine ct_iconst C (4) dX0_init_7 (by decide) ?_
  refine ct_mnaR C hov hA wC_257 wC_143 (N' := 8) (K' := 4) (by decide) (by decide) rfl rfl (Nat.le_of_ble_eq_true rfl) (Nat.le_of_ble_eq_true rfl) (Nat.le_of_ble_eq_true rfl) (Nat.le_of_ble_eq_true rfl) (Nat.le_of_ble_eq_true rfl) dX0_init_8 (fun q0 r0 => ?_)
  refine ct_putFH C (fs' := [.ref q0, .int 0, .null, .null, .null, .int 0]) (fty := (.array (.array .int))) (v := .ref q0) (k := 0) G0 (Nat.le_of_ble_eq_true rfl) rfl rfl (by decide +kernel) rfl rfl (Nat.le_of_ble_eq_true rfl) rfl dX0_init_12 wC_258 ?_
  refine ct_aload C hl 0 dX0_init_15 rfl ?_
  refine ct_iconst C (4) dX0_init_16 (by decide) ?_
  refine ct_newR C hA (atype := .int) (ty := .int) 0 wC_143 rfl rfl (fun _ _ h => h) (a0 := (4, .inl (fun _ => 0))) (fun _ => rfl) (by decide) rfl (Nat.le_of_ble_eq_true rfl) (Nat.le_of_ble_eq_true rfl) (Nat.le_of_ble_eq_true rfl) dX0_init_17 (fun q1 => ?_)
  refine ct_putFH C (fs' := [.ref q0, .int 0, .ref q1, .null, .null, .int 0]) (fty := (.array .int)) (v := .ref q1) (k := 2) G0 (Nat.le_of_ble_eq_true rfl) rfl rfl (by decide +kernel) rfl rfl (Nat.le_of_ble_eq_true rfl) rfl dX0_init_19 wC_260 ?_
  refine ct_aload C hl 0 dX0_init_22 rfl ?_
  refine ct_iconst C (4) dX0_init_23 (by decide) ?_
  refine ct_newR C hA (atype := .int) (ty := .int) 0 wC_143 rfl rfl (fun _ _ h => h) (a0 := (4, .inl (fun _ => 0))) (fun _ => rfl) (by decide) rfl (Nat.le_of_ble_eq_true rfl) (Nat.le_of_ble_eq_true rfl) (Nat.le_of_ble_eq_true rfl) dX0_init_24 (fun q2 => ?_)
  refine ct_putFH C (fs' := [.ref q0, .int 0, .ref q1, .ref q2, .null, .int 0]) (fty := (.array .int)) (v := .ref q2) (k := 3) G0 (Nat.le_of_ble_eq_true rfl) rfl rfl (by decide +kernel) rfl rfl (Nat.le_of_ble_eq_true rfl) rfl dX0_init_26 wC_261 ?_
  refine ct_aload C hl 0 dX0_init_29 rfl ?_
  refine ct_iconst C (4) dX0_init_30 (by decide) ?_
  refine ct_newR C hA (atype := .int) (ty := .int) 0 wC_143 rfl rfl (fun _ _ h => h) (a0 := (4, .inl (fun _ => 0))) (fun _ => rfl) (by decide) rfl (Nat.le_of_ble_eq_true rfl) (Nat.le_of_ble_eq_true rfl) (Nat.le_of_ble_eq_true rfl) dX0_init_31 (fun q3 => ?_)
  refine ct_putFH C (fs' := [.ref q0, .int 0, .ref q1, .ref q2, .ref q3, .int 0]) (fty := (.array .int)) (v := .ref q3) (k := 4) G0 (Nat.le_of_ble_eq_true rfl) rfl rfl (by decide +kernel) rfl rfl (Nat.le_of_ble_eq_true rfl) rfl dX0_init_33 wC_262 ?_
  exact ct_vret C (fun k => if k = 0 then q0 else if k = 1 then q1 else if k = 2 then q2 else if k = 3 then q3 else 0, fun k => if k = 0 then r0 else fun _ => 0) rfl rfl dX0_init_36
/-- what the constructor of UnreadScript$Claims leaves -/
def Wn1 (g : GC) (h0 a1 : Nat) (u : (Nat → Nat) × (Nat → Nat → Nat)) : va_W := (h0, .inr (1, [.ref a1, .ref (u.1 0), .ref (u.1 1), .ref (u.1 2), .ref (u.1 3), .ref (u.1 4), .ref (u.1 5), .int 0, .int 0, .int 0, .int 0, .int 0])) :: (((((([] ++ [((u.1 0), .inl (g.2.2.1 0, 20, .inl (fun _ => 0)))]) ++ [((u.1 1), .inl (g.2.2.1 0, 20, .inl (fun _ => 0)))]) ++ [((u.1 2), .inl (g.2.2.1 0, 20, .inl (fun _ => 0)))]) ++ [((u.1 3), .inl (g.2.2.1 0, 20, .inl (fun _ => 0)))]) ++ [((u.1 4), .inl (g.2.2.1 0, 20, .inl (fun _ => 0)))]) ++ [((u.1 5), .inl (g.2.2.1 0, 20, .inl (fun _ => 0)))])
set_option maxRecDepth 100000 in
theorem K_init1 (l : Launch) (g : GC) (h0 a1 : Nat) : CtM mX1_init 6 120 2 [.ref a1] h0 (.inr (1, [.null, .null, .null, .null, .null, .null, .null, .int 0, .int 0, .int 0, .int 0, .int 0])) g l (Wn1 g h0 a1) := by
  refine ct_entry (lv := [(0, .ref h0), (1, .ref a1)]) rfl rfl (Nat.le_of_ble_eq_true rfl) rfl ?_
  intro p e s m args below meth c A ls C hov hA hAe hl
  refine ct_aload C hl 0 dX1_init_0 rfl ?_
  refine ct_objInit C hl wC_356 wC_119 wC_120 (Nat.le_of_ble_eq_true rfl) (Nat.le_of_ble_eq_true rfl) rfl dX1_init_1 ?_
  refine ct_aload C hl 0 dX1_init_4 rfl ?_
  refine ct_bipush C (20) dX1_init_5 (by decide) ?_
  refine ct_newR C hA (atype := .int) (ty := .int) 0 wC_143 rfl rfl (fun _ _ h => h) (a0 := (20, .inl (fun _ => 0))) (fun _ => rfl) (by decide) rfl (Nat.le_of_ble_eq_true rfl) (Nat.le_of_ble_eq_true rfl) (Nat.le_of_ble_eq_true rfl) dX1_init_7 (fun q0 => ?_)
  refine ct_putFH C (fs' := [.null, .ref q0, .null, .null, .null, .null, .null, .int 0, .int 0, .int 0, .int 0, .int 0]) (fty := (.array .int)) (v := .ref q0) (k := 1) G1 (Nat.le_of_ble_eq_true rfl) rfl rfl (by decide +kernel) rfl rfl (Nat.le_of_ble_eq_true rfl) rfl dX1_init_9 wC_358 ?_
  refine ct_aload C hl 0 dX1_init_12 rfl ?_
  refine ct_bipush C (20) dX1_init_13 (by decide) ?_
  refine ct_newR C hA (atype := .int) (ty := .int) 0 wC_143 rfl rfl (fun _ _ h => h) (a0 := (20, .inl (fun _ => 0))) (fun _ => rfl) (by decide) rfl (Nat.le_of_ble_eq_true rfl) (Nat.le_of_ble_eq_true rfl) (Nat.le_of_ble_eq_true rfl) dX1_init_15 (fun q1 => ?_)
  refine ct_putFH C (fs' := [.null, .ref q0, .ref q1, .null, .null, .null, .null, .int 0, .int 0, .int 0, .int 0, .int 0]) (fty := (.array .int)) (v := .ref q1) (k := 2) G1 (Nat.le_of_ble_eq_true rfl) rfl rfl (by decide +kernel) rfl rfl (Nat.le_of_ble_eq_true rfl) rfl dX1_init_17 wC_359 ?_
  refine ct_aload C hl 0 dX1_init_20 rfl ?_
  refine ct_bipush C (20) dX1_init_21 (by decide) ?_
  refine ct_newR C hA (atype := .int) (ty := .int) 0 wC_143 rfl rfl (fun _ _ h => h) (a0 := (20, .inl (fun _ => 0))) (fun _ => rfl) (by decide) rfl (Nat.le_of_ble_eq_true rfl) (Nat.le_of_ble_eq_true rfl) (Nat.le_of_ble_eq_true rfl) dX1_init_23 (fun q2 => ?_)
  refine ct_putFH C (fs' := [.null, .ref q0, .ref q1, .ref q2, .null, .null, .null, .int 0, .int 0, .int 0, .int 0, .int 0]) (fty := (.array .int)) (v := .ref q2) (k := 3) G1 (Nat.le_of_ble_eq_true rfl) rfl rfl (by decide +kernel) rfl rfl (Nat.le_of_ble_eq_true rfl) rfl dX1_init_25 wC_360 ?_
  refine ct_aload C hl 0 dX1_init_28 rfl ?_
  refine ct_bipush C (20) dX1_init_29 (by decide) ?_
  refine ct_newR C hA (atype := .int) (ty := .int) 0 wC_143 rfl rfl (fun _ _ h => h) (a0 := (20, .inl (fun _ => 0))) (fun _ => rfl) (by decide) rfl (Nat.le_of_ble_eq_true rfl) (Nat.le_of_ble_eq_true rfl) (Nat.le_of_ble_eq_true rfl) dX1_init_31 (fun q3 => ?_)
  refine ct_putFH C (fs' := [.null, .ref q0, .ref q1, .ref q2, .ref q3, .null, .null, .int 0, .int 0, .int 0, .int 0, .int 0]) (fty := (.array .int)) (v := .ref q3) (k := 4) G1 (Nat.le_of_ble_eq_true rfl) rfl rfl (by decide +kernel) rfl rfl (Nat.le_of_ble_eq_true rfl) rfl dX1_init_33 wC_361 ?_
  refine ct_aload C hl 0 dX1_init_36 rfl ?_
  refine ct_bipush C (20) dX1_init_37 (by decide) ?_
  refine ct_newR C hA (atype := .int) (ty := .int) 0 wC_143 rfl rfl (fun _ _ h => h) (a0 := (20, .inl (fun _ => 0))) (fun _ => rfl) (by decide) rfl (Nat.le_of_ble_eq_true rfl) (Nat.le_of_ble_eq_true rfl) (Nat.le_of_ble_eq_true rfl) dX1_init_39 (fun q4 => ?_)
  refine ct_putFH C (fs' := [.null, .ref q0, .ref q1, .ref q2, .ref q3, .ref q4, .null, .int 0, .int 0, .int 0, .int 0, .int 0]) (fty := (.array .int)) (v := .ref q4) (k := 5) G1 (Nat.le_of_ble_eq_true rfl) rfl rfl (by decide +kernel) rfl rfl (Nat.le_of_ble_eq_true rfl) rfl dX1_init_41 wC_362 ?_
  refine ct_aload C hl 0 dX1_init_44 rfl ?_
  refine ct_bipush C (20) dX1_init_45 (by decide) ?_
  refine ct_newR C hA (atype := .int) (ty := .int) 0 wC_143 rfl rfl (fun _ _ h => h) (a0 := (20, .inl (fun _ => 0))) (fun _ => rfl) (by decide) rfl (Nat.le_of_ble_eq_true rfl) (Nat.le_of_ble_eq_true rfl) (Nat.le_of_ble_eq_true rfl) dX1_init_47 (fun q5 => ?_)
  refine ct_putFH C (fs' := [.null, .ref q0, .ref q1, .ref q2, .ref q3, .ref q4, .ref q5, .int 0, .int 0, .int 0, .int 0, .int 0]) (fty := (.array .int)) (v := .ref q5) (k := 6) G1 (Nat.le_of_ble_eq_true rfl) rfl rfl (by decide +kernel) rfl rfl (Nat.le_of_ble_eq_true rfl) rfl dX1_init_49 wC_363 ?_
  refine ct_aload C hl 0 dX1_init_52 rfl ?_
  refine ct_aload C hl 1 dX1_init_53 rfl ?_
  refine ct_putFH C (fs' := [.ref a1, .ref q0, .ref q1, .ref q2, .ref q3, .ref q4, .ref q5, .int 0, .int 0, .int 0, .int 0, .int 0]) (fty := (.object "UnreadScript$Tape")) (v := .ref a1) (k := 0) G1 (Nat.le_of_ble_eq_true rfl) rfl rfl (by decide +kernel) rfl rfl (Nat.le_of_ble_eq_true rfl) rfl dX1_init_54 wC_357 ?_
  exact ct_vret C (fun k => if k = 0 then q0 else if k = 1 then q1 else if k = 2 then q2 else if k = 3 then q3 else if k = 4 then q4 else if k = 5 then q5 else 0, fun k => fun _ => 0) rfl rfl dX1_init_57
/-- what the constructor of UnreadScript$Kinship leaves -/
def Wn3 (g : GC) (h0 a1 a2 : Nat) (u : (Nat → Nat) × (Nat → Nat → Nat)) : va_W := (h0, .inr (3, [.ref a1, .ref a2, .ref (u.1 0), .ref (u.1 1), .ref (u.1 2), .ref (u.1 3), .ref (u.1 4), .ref (u.1 5), .ref (u.1 6), .int 0, .int 0])) :: ((((((([] ++ (((u.1 0), .inl (g.2.2.1 4, 24, .inr (.inr (.inr (.inr (fun i => if i < 24 then some ((u.2 0) i) else none)))))) :: (List.range 24).map (fun i => ((u.2 0) i, .inl (g.2.2.1 0, 24, .inl (fun _ => 0)))))) ++ (((u.1 1), .inl (g.2.2.1 4, 24, .inr (.inr (.inr (.inr (fun i => if i < 24 then some ((u.2 1) i) else none)))))) :: (List.range 24).map (fun i => ((u.2 1) i, .inl (g.2.2.1 0, 24, .inl (fun _ => 0)))))) ++ (((u.1 2), .inl (g.2.2.1 4, 24, .inr (.inr (.inr (.inr (fun i => if i < 24 then some ((u.2 2) i) else none)))))) :: (List.range 24).map (fun i => ((u.2 2) i, .inl (g.2.2.1 0, 24, .inl (fun _ => 0)))))) ++ [((u.1 3), .inl (g.2.2.1 0, 96, .inl (fun _ => 0)))]) ++ [((u.1 4), .inl (g.2.2.1 0, 8, .inl (fun _ => 0)))]) ++ [((u.1 5), .inl (g.2.2.1 0, 8, .inl (fun _ => 0)))]) ++ [((u.1 6), .inl (g.2.2.1 0, 8, .inl (fun _ => 0)))])
set_option maxRecDepth 100000 in
theorem K_init3 (l : Launch) (g : GC) (h0 a1 a2 : Nat) : CtM mX3_init 79 1920 2 [.ref a1, .ref a2] h0 (.inr (3, [.null, .null, .null, .null, .null, .null, .null, .null, .null, .int 0, .int 0])) g l (Wn3 g h0 a1 a2) := by
  refine ct_entry (lv := [(0, .ref h0), (1, .ref a1), (2, .ref a2)]) rfl rfl (Nat.le_of_ble_eq_true rfl) rfl ?_
  intro p e s m args below meth c A ls C hov hA hAe hl
  refine ct_aload C hl 0 dX3_init_0 rfl ?_
  refine ct_objInit C hl wC_215 wC_119 wC_120 (Nat.le_of_ble_eq_true rfl) (Nat.le_of_ble_eq_true rfl) rfl dX3_init_1 ?_
  refine ct_aload C hl 0 dX3_init_4 rfl ?_
  refine ct_bipush C (24) dX3_init_5 (by decide) ?_
  refine ct_bipush C (24) dX3_init_7 (by decide) ?_
  refine ct_mnaR C hov hA wC_216 wC_143 (N' := 24) (K' := 24) (by decide) (by decide) rfl rfl (Nat.le_of_ble_eq_true rfl) (Nat.le_of_ble_eq_true rfl) (Nat.le_of_ble_eq_true rfl) (Nat.le_of_ble_eq_true rfl) (Nat.le_of_ble_eq_true rfl) dX3_init_9 (fun q0 r0 => ?_)
  refine ct_putFH C (fs' := [.null, .null, .ref q0, .null, .null, .null, .null, .null, .null, .int 0, .int 0]) (fty := (.array (.array .int))) (v := .ref q0) (k := 2) G3 (Nat.le_of_ble_eq_true rfl) rfl rfl (by decide +kernel) rfl rfl (Nat.le_of_ble_eq_true rfl) rfl dX3_init_13 wC_219 ?_
  refine ct_aload C hl 0 dX3_init_16 rfl ?_
  refine ct_bipush C (24) dX3_init_17 (by decide) ?_
  refine ct_bipush C (24) dX3_init_19 (by decide) ?_
  refine ct_mnaR C hov hA wC_216 wC_143 (N' := 24) (K' := 24) (by decide) (by decide) rfl rfl (Nat.le_of_ble_eq_true rfl) (Nat.le_of_ble_eq_true rfl) (Nat.le_of_ble_eq_true rfl) (Nat.le_of_ble_eq_true rfl) (Nat.le_of_ble_eq_true rfl) dX3_init_21 (fun q1 r1 => ?_)
  refine ct_putFH C (fs' := [.null, .null, .ref q0, .ref q1, .null, .null, .null, .null, .null, .int 0, .int 0]) (fty := (.array (.array .int))) (v := .ref q1) (k := 3) G3 (Nat.le_of_ble_eq_true rfl) rfl rfl (by decide +kernel) rfl rfl (Nat.le_of_ble_eq_true rfl) rfl dX3_init_25 wC_220 ?_
  refine ct_aload C hl 0 dX3_init_28 rfl ?_
  refine ct_bipush C (24) dX3_init_29 (by decide) ?_
  refine ct_bipush C (24) dX3_init_31 (by decide) ?_
  refine ct_mnaR C hov hA wC_216 wC_143 (N' := 24) (K' := 24) (by decide) (by decide) rfl rfl (Nat.le_of_ble_eq_true rfl) (Nat.le_of_ble_eq_true rfl) (Nat.le_of_ble_eq_true rfl) (Nat.le_of_ble_eq_true rfl) (Nat.le_of_ble_eq_true rfl) dX3_init_33 (fun q2 r2 => ?_)
  refine ct_putFH C (fs' := [.null, .null, .ref q0, .ref q1, .ref q2, .null, .null, .null, .null, .int 0, .int 0]) (fty := (.array (.array .int))) (v := .ref q2) (k := 4) G3 (Nat.le_of_ble_eq_true rfl) rfl rfl (by decide +kernel) rfl rfl (Nat.le_of_ble_eq_true rfl) rfl dX3_init_37 wC_221 ?_
  refine ct_aload C hl 0 dX3_init_40 rfl ?_
  refine ct_bipush C (96) dX3_init_41 (by decide) ?_
  refine ct_newR C hA (atype := .int) (ty := .int) 0 wC_143 rfl rfl (fun _ _ h => h) (a0 := (96, .inl (fun _ => 0))) (fun _ => rfl) (by decide) rfl (Nat.le_of_ble_eq_true rfl) (Nat.le_of_ble_eq_true rfl) (Nat.le_of_ble_eq_true rfl) dX3_init_43 (fun q3 => ?_)
  refine ct_putFH C (fs' := [.null, .null, .ref q0, .ref q1, .ref q2, .ref q3, .null, .null, .null, .int 0, .int 0]) (fty := (.array .int)) (v := .ref q3) (k := 5) G3 (Nat.le_of_ble_eq_true rfl) rfl rfl (by decide +kernel) rfl rfl (Nat.le_of_ble_eq_true rfl) rfl dX3_init_45 wC_222 ?_
  refine ct_aload C hl 0 dX3_init_48 rfl ?_
  refine ct_bipush C (8) dX3_init_49 (by decide) ?_
  refine ct_newR C hA (atype := .int) (ty := .int) 0 wC_143 rfl rfl (fun _ _ h => h) (a0 := (8, .inl (fun _ => 0))) (fun _ => rfl) (by decide) rfl (Nat.le_of_ble_eq_true rfl) (Nat.le_of_ble_eq_true rfl) (Nat.le_of_ble_eq_true rfl) dX3_init_51 (fun q4 => ?_)
  refine ct_putFH C (fs' := [.null, .null, .ref q0, .ref q1, .ref q2, .ref q3, .ref q4, .null, .null, .int 0, .int 0]) (fty := (.array .int)) (v := .ref q4) (k := 6) G3 (Nat.le_of_ble_eq_true rfl) rfl rfl (by decide +kernel) rfl rfl (Nat.le_of_ble_eq_true rfl) rfl dX3_init_53 wC_223 ?_
  refine ct_aload C hl 0 dX3_init_56 rfl ?_
  refine ct_bipush C (8) dX3_init_57 (by decide) ?_
  refine ct_newR C hA (atype := .int) (ty := .int) 0 wC_143 rfl rfl (fun _ _ h => h) (a0 := (8, .inl (fun _ => 0))) (fun _ => rfl) (by decide) rfl (Nat.le_of_ble_eq_true rfl) (Nat.le_of_ble_eq_true rfl) (Nat.le_of_ble_eq_true rfl) dX3_init_59 (fun q5 => ?_)
  refine ct_putFH C (fs' := [.null, .null, .ref q0, .ref q1, .ref q2, .ref q3, .ref q4, .ref q5, .null, .int 0, .int 0]) (fty := (.array .int)) (v := .ref q5) (k := 7) G3 (Nat.le_of_ble_eq_true rfl) rfl rfl (by decide +kernel) rfl rfl (Nat.le_of_ble_eq_true rfl) rfl dX3_init_61 wC_224 ?_
  refine ct_aload C hl 0 dX3_init_64 rfl ?_
  refine ct_bipush C (8) dX3_init_65 (by decide) ?_
  refine ct_newR C hA (atype := .int) (ty := .int) 0 wC_143 rfl rfl (fun _ _ h => h) (a0 := (8, .inl (fun _ => 0))) (fun _ => rfl) (by decide) rfl (Nat.le_of_ble_eq_true rfl) (Nat.le_of_ble_eq_true rfl) (Nat.le_of_ble_eq_true rfl) dX3_init_67 (fun q6 => ?_)
  refine ct_putFH C (fs' := [.null, .null, .ref q0, .ref q1, .ref q2, .ref q3, .ref q4, .ref q5, .ref q6, .int 0, .int 0]) (fty := (.array .int)) (v := .ref q6) (k := 8) G3 (Nat.le_of_ble_eq_true rfl) rfl rfl (by decide +kernel) rfl rfl (Nat.le_of_ble_eq_true rfl) rfl dX3_init_69 wC_225 ?_
  refine ct_aload C hl 0 dX3_init_72 rfl ?_
  refine ct_aload C hl 1 dX3_init_73 rfl ?_
  refine ct_putFH C (fs' := [.ref a1, .null, .ref q0, .ref q1, .ref q2, .ref q3, .ref q4, .ref q5, .ref q6, .int 0, .int 0]) (fty := (.object "UnreadScript$Forms")) (v := .ref a1) (k := 0) G3 (Nat.le_of_ble_eq_true rfl) rfl rfl (by decide +kernel) rfl rfl (Nat.le_of_ble_eq_true rfl) rfl dX3_init_74 wC_217 ?_
  refine ct_aload C hl 0 dX3_init_77 rfl ?_
  refine ct_aload C hl 2 dX3_init_78 rfl ?_
  refine ct_putFH C (fs' := [.ref a1, .ref a2, .ref q0, .ref q1, .ref q2, .ref q3, .ref q4, .ref q5, .ref q6, .int 0, .int 0]) (fty := (.object "UnreadScript$Texts")) (v := .ref a2) (k := 1) G3 (Nat.le_of_ble_eq_true rfl) rfl rfl (by decide +kernel) rfl rfl (Nat.le_of_ble_eq_true rfl) rfl dX3_init_79 wC_218 ?_
  exact ct_vret C (fun k => if k = 0 then q0 else if k = 1 then q1 else if k = 2 then q2 else if k = 3 then q3 else if k = 4 then q4 else if k = 5 then q5 else if k = 6 then q6 else 0, fun k => if k = 0 then r0 else if k = 1 then r1 else if k = 2 then r2 else fun _ => 0) rfl rfl dX3_init_82
/-- what the constructor of UnreadScript$Names leaves -/
def Wn4 (g : GC) (h0 a1 : Nat) (u : (Nat → Nat) × (Nat → Nat → Nat)) : va_W := (h0, .inr (4, [.ref a1, .ref (u.1 0), .ref (u.1 1), .int 0])) :: (([] ++ (((u.1 0), .inl (g.2.2.1 4, 4, .inr (.inr (.inr (.inr (fun i => if i < 4 then some ((u.2 0) i) else none)))))) :: (List.range 4).map (fun i => ((u.2 0) i, .inl (g.2.2.1 0, 8, .inl (fun _ => 0)))))) ++ [((u.1 1), .inl (g.2.2.1 0, 4, .inl (fun _ => 0)))])
set_option maxRecDepth 100000 in
theorem K_init4 (l : Launch) (g : GC) (h0 a1 : Nat) : CtM mX4_init 6 40 2 [.ref a1] h0 (.inr (4, [.null, .null, .null, .int 0])) g l (Wn4 g h0 a1) := by
  refine ct_entry (lv := [(0, .ref h0), (1, .ref a1)]) rfl rfl (Nat.le_of_ble_eq_true rfl) rfl ?_
  intro p e s m args below meth c A ls C hov hA hAe hl
  refine ct_aload C hl 0 dX4_init_0 rfl ?_
  refine ct_objInit C hl wC_282 wC_119 wC_120 (Nat.le_of_ble_eq_true rfl) (Nat.le_of_ble_eq_true rfl) rfl dX4_init_1 ?_
  refine ct_aload C hl 0 dX4_init_4 rfl ?_
  refine ct_iconst C (4) dX4_init_5 (by decide) ?_
  refine ct_bipush C (8) dX4_init_6 (by decide) ?_
  refine ct_mnaR C hov hA wC_283 wC_143 (N' := 4) (K' := 8) (by decide) (by decide) rfl rfl (Nat.le_of_ble_eq_true rfl) (Nat.le_of_ble_eq_true rfl) (Nat.le_of_ble_eq_true rfl) (Nat.le_of_ble_eq_true rfl) (Nat.le_of_ble_eq_true rfl) dX4_init_8 (fun q0 r0 => ?_)
  refine ct_putFH C (fs' := [.null, .ref q0, .null, .int 0]) (fty := (.array (.array .int))) (v := .ref q0) (k := 1) G4 (Nat.le_of_ble_eq_true rfl) rfl rfl (by decide +kernel) rfl rfl (Nat.le_of_ble_eq_true rfl) rfl dX4_init_12 wC_285 ?_
  refine ct_aload C hl 0 dX4_init_15 rfl ?_
  refine ct_iconst C (4) dX4_init_16 (by decide) ?_
  refine ct_newR C hA (atype := .int) (ty := .int) 0 wC_143 rfl rfl (fun _ _ h => h) (a0 := (4, .inl (fun _ => 0))) (fun _ => rfl) (by decide) rfl (Nat.le_of_ble_eq_true rfl) (Nat.le_of_ble_eq_true rfl) (Nat.le_of_ble_eq_true rfl) dX4_init_17 (fun q1 => ?_)
  refine ct_putFH C (fs' := [.null, .ref q0, .ref q1, .int 0]) (fty := (.array .int)) (v := .ref q1) (k := 2) G4 (Nat.le_of_ble_eq_true rfl) rfl rfl (by decide +kernel) rfl rfl (Nat.le_of_ble_eq_true rfl) rfl dX4_init_19 wC_286 ?_
  refine ct_aload C hl 0 dX4_init_22 rfl ?_
  refine ct_aload C hl 1 dX4_init_23 rfl ?_
  refine ct_putFH C (fs' := [.ref a1, .ref q0, .ref q1, .int 0]) (fty := (.object "UnreadScript$Texts")) (v := .ref a1) (k := 0) G4 (Nat.le_of_ble_eq_true rfl) rfl rfl (by decide +kernel) rfl rfl (Nat.le_of_ble_eq_true rfl) rfl dX4_init_24 wC_284 ?_
  exact ct_vret C (fun k => if k = 0 then q0 else if k = 1 then q1 else 0, fun k => if k = 0 then r0 else fun _ => 0) rfl rfl dX4_init_27
