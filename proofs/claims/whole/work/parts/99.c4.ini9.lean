/-! ===== constructors, printed by gen_c9.py ===== -/
set_option maxRecDepth 100000 in
theorem wC_97 : (Jvm.Cond.initialized "UnreadScript$Forms") ∈ TB := lw_in (i := 97) (by decide +kernel) rfl
set_option maxRecDepth 100000 in
theorem wC_98 : (Jvm.Cond.initialized "UnreadScript$Texts") ∈ TB := lw_in (i := 98) (by decide +kernel) rfl
set_option maxRecDepth 100000 in
theorem wC_99 : (Jvm.Cond.initialized "UnreadScript$Tape") ∈ TB := lw_in (i := 99) (by decide +kernel) rfl
set_option maxRecDepth 100000 in
theorem wC_100 : (Jvm.Cond.initialized "UnreadScript$Kinship") ∈ TB := lw_in (i := 100) (by decide +kernel) rfl
set_option maxRecDepth 100000 in
theorem wC_101 : (Jvm.Cond.initialized "UnreadScript$Accounts") ∈ TB := lw_in (i := 101) (by decide +kernel) rfl
set_option maxRecDepth 100000 in
theorem wC_102 : (Jvm.Cond.initialized "UnreadScript$Names") ∈ TB := lw_in (i := 102) (by decide +kernel) rfl
set_option maxRecDepth 100000 in
theorem wC_103 : (Jvm.Cond.initialized "UnreadScript$Tongue") ∈ TB := lw_in (i := 103) (by decide +kernel) rfl
set_option maxRecDepth 100000 in
theorem wC_104 : (Jvm.Cond.initialized "UnreadScript$Claims") ∈ TB := lw_in (i := 104) (by decide +kernel) rfl
set_option maxRecDepth 100000 in
theorem wC_105 : (Jvm.Cond.initialized "UnreadScript$Sheets") ∈ TB := lw_in (i := 105) (by decide +kernel) rfl
set_option maxRecDepth 100000 in
theorem wC_118 : (Jvm.Cond.methodLink "UnreadScript" (1 : Nat) ({ cls := "java/lang/Object", name := "<init>", desc := "()V" } : Jvm.MethodName)) ∈ TB := lw_in (i := 118) (by decide +kernel) rfl
set_option maxRecDepth 100000 in
theorem wC_121 : (Jvm.Cond.classLink "UnreadScript" (7 : Nat) "UnreadScript$Forms") ∈ TB := lw_in (i := 121) (by decide +kernel) rfl
set_option maxRecDepth 100000 in
theorem wC_122 : (Jvm.Cond.instantiable "UnreadScript$Forms" (5 : Nat)) ∈ TB := lw_in (i := 122) (by decide +kernel) rfl
set_option maxRecDepth 100000 in
theorem wC_124 : (Jvm.Cond.instanceMethod ({ cls := "UnreadScript$Forms", name := "<init>", desc := "()V" } : Jvm.MethodName)) ∈ TB := lw_in (i := 124) (by decide +kernel) rfl
set_option maxRecDepth 100000 in
theorem wC_144 : (Jvm.Cond.classLink "UnreadScript" (10 : Nat) "UnreadScript$Texts") ∈ TB := lw_in (i := 144) (by decide +kernel) rfl
set_option maxRecDepth 100000 in
theorem wC_145 : (Jvm.Cond.instantiable "UnreadScript$Texts" (11 : Nat)) ∈ TB := lw_in (i := 145) (by decide +kernel) rfl
set_option maxRecDepth 100000 in
theorem wC_146 : (Jvm.Cond.methodLink "UnreadScript" (12 : Nat) ({ cls := "UnreadScript$Texts", name := "<init>", desc := "(LUnreadScript$Forms;)V" } : Jvm.MethodName)) ∈ TB := lw_in (i := 146) (by decide +kernel) rfl
set_option maxRecDepth 100000 in
theorem wC_147 : (Jvm.Cond.instanceMethod ({ cls := "UnreadScript$Texts", name := "<init>", desc := "(LUnreadScript$Forms;)V" } : Jvm.MethodName)) ∈ TB := lw_in (i := 147) (by decide +kernel) rfl
set_option maxRecDepth 100000 in
theorem wC_187 : (Jvm.Cond.classLink "UnreadScript" (15 : Nat) "UnreadScript$Tape") ∈ TB := lw_in (i := 187) (by decide +kernel) rfl
set_option maxRecDepth 100000 in
theorem wC_188 : (Jvm.Cond.instantiable "UnreadScript$Tape" (5 : Nat)) ∈ TB := lw_in (i := 188) (by decide +kernel) rfl
set_option maxRecDepth 100000 in
theorem wC_190 : (Jvm.Cond.instanceMethod ({ cls := "UnreadScript$Tape", name := "<init>", desc := "()V" } : Jvm.MethodName)) ∈ TB := lw_in (i := 190) (by decide +kernel) rfl
set_option maxRecDepth 100000 in
theorem wC_210 : (Jvm.Cond.classLink "UnreadScript" (28 : Nat) "UnreadScript$Kinship") ∈ TB := lw_in (i := 210) (by decide +kernel) rfl
set_option maxRecDepth 100000 in
theorem wC_211 : (Jvm.Cond.instantiable "UnreadScript$Kinship" (11 : Nat)) ∈ TB := lw_in (i := 211) (by decide +kernel) rfl
set_option maxRecDepth 100000 in
theorem wC_212 : (Jvm.Cond.methodLink "UnreadScript" (30 : Nat) ({ cls := "UnreadScript$Kinship", name := "<init>", desc := "(LUnreadScript$Forms;LUnreadScript$Texts;)V" } : Jvm.MethodName)) ∈ TB := lw_in (i := 212) (by decide +kernel) rfl
set_option maxRecDepth 100000 in
theorem wC_213 : (Jvm.Cond.instanceMethod ({ cls := "UnreadScript$Kinship", name := "<init>", desc := "(LUnreadScript$Forms;LUnreadScript$Texts;)V" } : Jvm.MethodName)) ∈ TB := lw_in (i := 213) (by decide +kernel) rfl
set_option maxRecDepth 100000 in
theorem wC_251 : (Jvm.Cond.classLink "UnreadScript" (37 : Nat) "UnreadScript$Accounts") ∈ TB := lw_in (i := 251) (by decide +kernel) rfl
set_option maxRecDepth 100000 in
theorem wC_252 : (Jvm.Cond.instantiable "UnreadScript$Accounts" (6 : Nat)) ∈ TB := lw_in (i := 252) (by decide +kernel) rfl
set_option maxRecDepth 100000 in
theorem wC_254 : (Jvm.Cond.instanceMethod ({ cls := "UnreadScript$Accounts", name := "<init>", desc := "()V" } : Jvm.MethodName)) ∈ TB := lw_in (i := 254) (by decide +kernel) rfl
set_option maxRecDepth 100000 in
theorem wC_277 : (Jvm.Cond.classLink "UnreadScript" (44 : Nat) "UnreadScript$Names") ∈ TB := lw_in (i := 277) (by decide +kernel) rfl
set_option maxRecDepth 100000 in
theorem wC_278 : (Jvm.Cond.instantiable "UnreadScript$Names" (4 : Nat)) ∈ TB := lw_in (i := 278) (by decide +kernel) rfl
set_option maxRecDepth 100000 in
theorem wC_279 : (Jvm.Cond.methodLink "UnreadScript" (46 : Nat) ({ cls := "UnreadScript$Names", name := "<init>", desc := "(LUnreadScript$Texts;)V" } : Jvm.MethodName)) ∈ TB := lw_in (i := 279) (by decide +kernel) rfl
set_option maxRecDepth 100000 in
theorem wC_280 : (Jvm.Cond.instanceMethod ({ cls := "UnreadScript$Names", name := "<init>", desc := "(LUnreadScript$Texts;)V" } : Jvm.MethodName)) ∈ TB := lw_in (i := 280) (by decide +kernel) rfl
set_option maxRecDepth 100000 in
theorem wC_297 : (Jvm.Cond.classLink "UnreadScript" (53 : Nat) "UnreadScript$Tongue") ∈ TB := lw_in (i := 297) (by decide +kernel) rfl
set_option maxRecDepth 100000 in
theorem wC_298 : (Jvm.Cond.instantiable "UnreadScript$Tongue" (15 : Nat)) ∈ TB := lw_in (i := 298) (by decide +kernel) rfl
set_option maxRecDepth 100000 in
theorem wC_299 : (Jvm.Cond.methodLink "UnreadScript" (55 : Nat) ({ cls := "UnreadScript$Tongue", name := "<init>", desc := "(LUnreadScript$Texts;)V" } : Jvm.MethodName)) ∈ TB := lw_in (i := 299) (by decide +kernel) rfl
set_option maxRecDepth 100000 in
theorem wC_300 : (Jvm.Cond.instanceMethod ({ cls := "UnreadScript$Tongue", name := "<init>", desc := "(LUnreadScript$Texts;)V" } : Jvm.MethodName)) ∈ TB := lw_in (i := 300) (by decide +kernel) rfl
set_option maxRecDepth 100000 in
theorem wC_351 : (Jvm.Cond.classLink "UnreadScript" (64 : Nat) "UnreadScript$Claims") ∈ TB := lw_in (i := 351) (by decide +kernel) rfl
set_option maxRecDepth 100000 in
theorem wC_352 : (Jvm.Cond.instantiable "UnreadScript$Claims" (12 : Nat)) ∈ TB := lw_in (i := 352) (by decide +kernel) rfl
set_option maxRecDepth 100000 in
theorem wC_353 : (Jvm.Cond.methodLink "UnreadScript" (66 : Nat) ({ cls := "UnreadScript$Claims", name := "<init>", desc := "(LUnreadScript$Tape;)V" } : Jvm.MethodName)) ∈ TB := lw_in (i := 353) (by decide +kernel) rfl
set_option maxRecDepth 100000 in
theorem wC_354 : (Jvm.Cond.instanceMethod ({ cls := "UnreadScript$Claims", name := "<init>", desc := "(LUnreadScript$Tape;)V" } : Jvm.MethodName)) ∈ TB := lw_in (i := 354) (by decide +kernel) rfl
set_option maxRecDepth 100000 in
theorem wC_394 : (Jvm.Cond.classLink "UnreadScript" (73 : Nat) "UnreadScript$Sheets") ∈ TB := lw_in (i := 394) (by decide +kernel) rfl
set_option maxRecDepth 100000 in
theorem wC_395 : (Jvm.Cond.instantiable "UnreadScript$Sheets" (3 : Nat)) ∈ TB := lw_in (i := 395) (by decide +kernel) rfl
set_option maxRecDepth 100000 in
theorem wC_397 : (Jvm.Cond.instanceMethod ({ cls := "UnreadScript$Sheets", name := "<init>", desc := "()V" } : Jvm.MethodName)) ∈ TB := lw_in (i := 397) (by decide +kernel) rfl
set_option maxRecDepth 100000 in
theorem wC_411 : (Jvm.Cond.fieldLink "UnreadScript" (18 : Nat) "UnreadScript" "formRows" "LUnreadScript$Forms;") ∈ TB := lw_in (i := 411) (by decide +kernel) rfl
set_option maxRecDepth 100000 in
theorem wC_412 : (Jvm.Cond.fieldLink "UnreadScript" (24 : Nat) "UnreadScript" "textRows" "LUnreadScript$Texts;") ∈ TB := lw_in (i := 412) (by decide +kernel) rfl
set_option maxRecDepth 100000 in
theorem wC_413 : (Jvm.Cond.fieldLink "UnreadScript" (33 : Nat) "UnreadScript" "kinship" "LUnreadScript$Kinship;") ∈ TB := lw_in (i := 413) (by decide +kernel) rfl
set_option maxRecDepth 100000 in
theorem wC_414 : (Jvm.Cond.fieldLink "UnreadScript" (40 : Nat) "UnreadScript" "accountRows" "LUnreadScript$Accounts;") ∈ TB := lw_in (i := 414) (by decide +kernel) rfl
set_option maxRecDepth 100000 in
theorem wC_415 : (Jvm.Cond.fieldLink "UnreadScript" (49 : Nat) "UnreadScript" "nameRows" "LUnreadScript$Names;") ∈ TB := lw_in (i := 415) (by decide +kernel) rfl
set_option maxRecDepth 100000 in
theorem wC_416 : (Jvm.Cond.fieldLink "UnreadScript" (56 : Nat) "UnreadScript" "tongue" "LUnreadScript$Tongue;") ∈ TB := lw_in (i := 416) (by decide +kernel) rfl
set_option maxRecDepth 100000 in
theorem wC_417 : (Jvm.Cond.fieldLink "UnreadScript" (60 : Nat) "UnreadScript" "tape" "LUnreadScript$Tape;") ∈ TB := lw_in (i := 417) (by decide +kernel) rfl
set_option maxRecDepth 100000 in
theorem wC_418 : (Jvm.Cond.fieldLink "UnreadScript" (69 : Nat) "UnreadScript" "claimRows" "LUnreadScript$Claims;") ∈ TB := lw_in (i := 418) (by decide +kernel) rfl
set_option maxRecDepth 100000 in
theorem wC_419 : (Jvm.Cond.fieldLink "UnreadScript" (76 : Nat) "UnreadScript" "sheetRows" "LUnreadScript$Sheets;") ∈ TB := lw_in (i := 419) (by decide +kernel) rfl
/-- what the constructor of UnreadScript leaves: the objects' addresses, and what each of their constructors made -/
def Wn9 (g : GC) (h0 : Nat) (u : (Nat → Nat) × (Nat → (Nat → Nat) × (Nat → Nat → Nat))) : va_W := (h0, .inr (9, [.ref (u.1 2), .ref (u.1 7), .ref (u.1 3), .ref (u.1 0), .ref (u.1 4), .ref (u.1 8), .ref (u.1 6), .ref (u.1 1), .ref (u.1 5)])) :: ((((((((([] ++ Wn2 g (u.1 2) (u.2 2)) ++ Wn7 g (u.1 7) (u.1 2) (u.2 7)) ++ Wn3 g (u.1 3) (u.1 2) (u.1 7) (u.2 3)) ++ Wn0 g (u.1 0) (u.2 0)) ++ Wn4 g (u.1 4) (u.1 7) (u.2 4)) ++ Wn8 g (u.1 8) (u.1 7) (u.2 8)) ++ Wn6 g (u.1 6) (u.2 6)) ++ Wn1 g (u.1 1) (u.1 6) (u.2 1)) ++ Wn5 g (u.1 5) (u.2 5))
set_option maxRecDepth 100000 in
theorem K_init9 (l : Launch) (g : GC) (h0 : Nat) : CtM mX9_init 244 4296 4 [] h0 (.inr (9, [.null, .null, .null, .null, .null, .null, .null, .null, .null])) g l (Wn9 g h0) := by
  refine ct_entry (lv := [(0, .ref h0)]) rfl rfl (Nat.le_of_ble_eq_true rfl) rfl ?_
  intro p e s m args below meth c A ls C hov hA hAe hl
  refine ct_aload C hl 0 dX9_init_0 rfl ?_
  refine ct_objInit C hl wC_118 wC_119 wC_120 (Nat.le_of_ble_eq_true rfl) (Nat.le_of_ble_eq_true rfl) rfl dX9_init_1 ?_
  refine ct_newO C hA (fs := [.null, .null, .null, .int 0, .int 0]) G2 wC_121 wC_122 wC_97 rfl (Nat.le_of_ble_eq_true rfl) (Nat.le_of_ble_eq_true rfl) dX9_init_4 (fun o2 => ?_)
  refine ct_dup C dX9_init_7 rfl ?_
  refine ct_callON C hov hA [] rfl (K_init2 l g o2) kX2_init wC_124 rfl rfl hov.2.1 rfl ⟨(Nat.le_of_ble_eq_true rfl), (Nat.le_of_ble_eq_true rfl)⟩ hl.1 (Nat.le_of_ble_eq_true rfl) dX9_init_8 ⟨(Nat.le_of_ble_eq_true rfl), (Nat.le_of_ble_eq_true rfl)⟩ (fun u2 => ct_cons ?_)
  refine ct_astore C hl (lv' := [(1, .ref o2), (0, .ref h0)]) dX9_init_11 (Nat.le_of_ble_eq_true rfl) rfl (fun ls hl => ?_)
  refine ct_newO C hA (fs := [.null, .null, .null, .null, .int 0, .null, .null, .null, .null, .int 0, .null]) G7 wC_144 wC_145 wC_98 rfl (Nat.le_of_ble_eq_true rfl) (Nat.le_of_ble_eq_true rfl) dX9_init_12 (fun o7 => ?_)
  refine ct_dup C dX9_init_15 rfl ?_
  refine ct_aload C hl 0 dX9_init_16 rfl ?_
  refine ct_callO C hov hA [.ref o2] rfl (K_init7 l g o7 o2) kX7_init wC_147 rfl rfl wC_146 rfl ⟨(Nat.le_of_ble_eq_true rfl), (Nat.le_of_ble_eq_true rfl)⟩ hl.1 (Nat.le_of_ble_eq_true rfl) dX9_init_17 ⟨(Nat.le_of_ble_eq_true rfl), (Nat.le_of_ble_eq_true rfl)⟩ (fun u7 => ct_cons ?_)
  refine ct_astore C hl (lv' := [(2, .ref o7), (1, .ref o2), (0, .ref h0)]) dX9_init_20 (Nat.le_of_ble_eq_true rfl) rfl (fun ls hl => ?_)
  refine ct_newO C hA (fs := [.null, .int 0, .int 0, .int 0, .int 0]) G6 wC_187 wC_188 wC_99 rfl (Nat.le_of_ble_eq_true rfl) (Nat.le_of_ble_eq_true rfl) dX9_init_21 (fun o6 => ?_)
  refine ct_dup C dX9_init_24 rfl ?_
  refine ct_callON C hov hA [] rfl (K_init6 l g o6) kX6_init wC_190 rfl rfl hov.2.2.1 rfl ⟨(Nat.le_of_ble_eq_true rfl), (Nat.le_of_ble_eq_true rfl)⟩ hl.1 (Nat.le_of_ble_eq_true rfl) dX9_init_25 ⟨(Nat.le_of_ble_eq_true rfl), (Nat.le_of_ble_eq_true rfl)⟩ (fun u6 => ct_cons ?_)
  refine ct_astore C hl (lv' := [(3, .ref o6), (2, .ref o7), (1, .ref o2), (0, .ref h0)]) dX9_init_28 (Nat.le_of_ble_eq_true rfl) rfl (fun ls hl => ?_)
  refine ct_aload C hl 3 dX9_init_29 rfl ?_
  refine ct_aload C hl 2 dX9_init_30 rfl ?_
  refine ct_putFH C (fs' := [.ref o2, .null, .null, .null, .null, .null, .null, .null, .null]) (fty := (.object "UnreadScript$Forms")) (v := .ref o2) (k := 0) G9 (Nat.le_of_ble_eq_true rfl) rfl rfl (by decide +kernel) rfl rfl (Nat.le_of_ble_eq_true rfl) rfl dX9_init_31 wC_411 ?_
  refine ct_aload C hl 3 dX9_init_34 rfl ?_
  refine ct_aload C hl 1 dX9_init_35 rfl ?_
  refine ct_putFH C (fs' := [.ref o2, .ref o7, .null, .null, .null, .null, .null, .null, .null]) (fty := (.object "UnreadScript$Texts")) (v := .ref o7) (k := 1) G9 (Nat.le_of_ble_eq_true rfl) rfl rfl (by decide +kernel) rfl rfl (Nat.le_of_ble_eq_true rfl) rfl dX9_init_36 wC_412 ?_
  refine ct_aload C hl 3 dX9_init_39 rfl ?_
  refine ct_newO C hA (fs := [.null, .null, .null, .null, .null, .null, .null, .null, .null, .int 0, .int 0]) G3 wC_210 wC_211 wC_100 rfl (Nat.le_of_ble_eq_true rfl) (Nat.le_of_ble_eq_true rfl) dX9_init_40 (fun o3 => ?_)
  refine ct_dup C dX9_init_43 rfl ?_
  refine ct_aload C hl 2 dX9_init_44 rfl ?_
  refine ct_aload C hl 1 dX9_init_45 rfl ?_
  refine ct_callO C hov hA [.ref o2, .ref o7] rfl (K_init3 l g o3 o2 o7) kX3_init wC_213 rfl rfl wC_212 rfl ⟨(Nat.le_of_ble_eq_true rfl), (Nat.le_of_ble_eq_true rfl)⟩ hl.1 (Nat.le_of_ble_eq_true rfl) dX9_init_46 ⟨(Nat.le_of_ble_eq_true rfl), (Nat.le_of_ble_eq_true rfl)⟩ (fun u3 => ct_cons ?_)
  refine ct_swap ?_
  refine ct_putFH C (fs' := [.ref o2, .ref o7, .ref o3, .null, .null, .null, .null, .null, .null]) (fty := (.object "UnreadScript$Kinship")) (v := .ref o3) (k := 2) G9 (Nat.le_of_ble_eq_true rfl) rfl rfl (by decide +kernel) rfl rfl (Nat.le_of_ble_eq_true rfl) rfl dX9_init_49 wC_413 ?_
  refine ct_aload C hl 3 dX9_init_52 rfl ?_
  refine ct_newO C hA (fs := [.null, .int 0, .null, .null, .null, .int 0]) G0 wC_251 wC_252 wC_101 rfl (Nat.le_of_ble_eq_true rfl) (Nat.le_of_ble_eq_true rfl) dX9_init_53 (fun o0 => ?_)
  refine ct_dup C dX9_init_56 rfl ?_
  refine ct_callON C hov hA [] rfl (K_init0 l g o0) kX0_init wC_254 rfl rfl hov.2.2.2.1 rfl ⟨(Nat.le_of_ble_eq_true rfl), (Nat.le_of_ble_eq_true rfl)⟩ hl.1 (Nat.le_of_ble_eq_true rfl) dX9_init_57 ⟨(Nat.le_of_ble_eq_true rfl), (Nat.le_of_ble_eq_true rfl)⟩ (fun u0 => ct_cons ?_)
  refine ct_swap ?_
  refine ct_putFH C (fs' := [.ref o2, .ref o7, .ref o3, .ref o0, .null, .null, .null, .null, .null]) (fty := (.object "UnreadScript$Accounts")) (v := .ref o0) (k := 3) G9 (Nat.le_of_ble_eq_true rfl) rfl rfl (by decide +kernel) rfl rfl (Nat.le_of_ble_eq_true rfl) rfl dX9_init_60 wC_414 ?_
  refine ct_aload C hl 3 dX9_init_63 rfl ?_
  refine ct_newO C hA (fs := [.null, .null, .null, .int 0]) G4 wC_277 wC_278 wC_102 rfl (Nat.le_of_ble_eq_true rfl) (Nat.le_of_ble_eq_true rfl) dX9_init_64 (fun o4 => ?_)
  refine ct_dup C dX9_init_67 rfl ?_
  refine ct_aload C hl 1 dX9_init_68 rfl ?_
  refine ct_callO C hov hA [.ref o7] rfl (K_init4 l g o4 o7) kX4_init wC_280 rfl rfl wC_279 rfl ⟨(Nat.le_of_ble_eq_true rfl), (Nat.le_of_ble_eq_true rfl)⟩ hl.1 (Nat.le_of_ble_eq_true rfl) dX9_init_69 ⟨(Nat.le_of_ble_eq_true rfl), (Nat.le_of_ble_eq_true rfl)⟩ (fun u4 => ct_cons ?_)
  refine ct_swap ?_
  refine ct_putFH C (fs' := [.ref o2, .ref o7, .ref o3, .ref o0, .ref o4, .null, .null, .null, .null]) (fty := (.object "UnreadScript$Names")) (v := .ref o4) (k := 4) G9 (Nat.le_of_ble_eq_true rfl) rfl rfl (by decide +kernel) rfl rfl (Nat.le_of_ble_eq_true rfl) rfl dX9_init_72 wC_415 ?_
  refine ct_aload C hl 3 dX9_init_75 rfl ?_
  refine ct_newO C hA (fs := [.null, .null, .int 0, .null, .int 0, .null, .null, .null, .null, .int 0, .null, .null, .int 0, .int 0, .null]) G8 wC_297 wC_298 wC_103 rfl (Nat.le_of_ble_eq_true rfl) (Nat.le_of_ble_eq_true rfl) dX9_init_76 (fun o8 => ?_)
  refine ct_dup C dX9_init_79 rfl ?_
  refine ct_aload C hl 1 dX9_init_80 rfl ?_
  refine ct_callO C hov hA [.ref o7] rfl (K_init8 l g o8 o7) kX8_init wC_300 rfl rfl wC_299 rfl ⟨(Nat.le_of_ble_eq_true rfl), (Nat.le_of_ble_eq_true rfl)⟩ hl.1 (Nat.le_of_ble_eq_true rfl) dX9_init_81 ⟨(Nat.le_of_ble_eq_true rfl), (Nat.le_of_ble_eq_true rfl)⟩ (fun u8 => ct_cons ?_)
  refine ct_swap ?_
  refine ct_putFH C (fs' := [.ref o2, .ref o7, .ref o3, .ref o0, .ref o4, .ref o8, .null, .null, .null]) (fty := (.object "UnreadScript$Tongue")) (v := .ref o8) (k := 5) G9 (Nat.le_of_ble_eq_true rfl) rfl rfl (by decide +kernel) rfl rfl (Nat.le_of_ble_eq_true rfl) rfl dX9_init_84 wC_416 ?_
  refine ct_aload C hl 3 dX9_init_87 rfl ?_
  refine ct_aload C hl 0 dX9_init_88 rfl ?_
  refine ct_putFH C (fs' := [.ref o2, .ref o7, .ref o3, .ref o0, .ref o4, .ref o8, .ref o6, .null, .null]) (fty := (.object "UnreadScript$Tape")) (v := .ref o6) (k := 6) G9 (Nat.le_of_ble_eq_true rfl) rfl rfl (by decide +kernel) rfl rfl (Nat.le_of_ble_eq_true rfl) rfl dX9_init_89 wC_417 ?_
  refine ct_aload C hl 3 dX9_init_92 rfl ?_
  refine ct_newO C hA (fs := [.null, .null, .null, .null, .null, .null, .null, .int 0, .int 0, .int 0, .int 0, .int 0]) G1 wC_351 wC_352 wC_104 rfl (Nat.le_of_ble_eq_true rfl) (Nat.le_of_ble_eq_true rfl) dX9_init_93 (fun o1 => ?_)
  refine ct_dup C dX9_init_96 rfl ?_
  refine ct_aload C hl 0 dX9_init_97 rfl ?_
  refine ct_callO C hov hA [.ref o6] rfl (K_init1 l g o1 o6) kX1_init wC_354 rfl rfl wC_353 rfl ⟨(Nat.le_of_ble_eq_true rfl), (Nat.le_of_ble_eq_true rfl)⟩ hl.1 (Nat.le_of_ble_eq_true rfl) dX9_init_98 ⟨(Nat.le_of_ble_eq_true rfl), (Nat.le_of_ble_eq_true rfl)⟩ (fun u1 => ct_cons ?_)
  refine ct_putFH C (fs' := [.ref o2, .ref o7, .ref o3, .ref o0, .ref o4, .ref o8, .ref o6, .ref o1, .null]) (fty := (.object "UnreadScript$Claims")) (v := .ref o1) (k := 7) G9 (Nat.le_of_ble_eq_true rfl) rfl rfl (by decide +kernel) rfl rfl (Nat.le_of_ble_eq_true rfl) rfl dX9_init_101 wC_418 ?_
  refine ct_aload C hl 3 dX9_init_104 rfl ?_
  refine ct_newO C hA (fs := [.null, .null, .null]) G5 wC_394 wC_395 wC_105 rfl (Nat.le_of_ble_eq_true rfl) (Nat.le_of_ble_eq_true rfl) dX9_init_105 (fun o5 => ?_)
  refine ct_dup C dX9_init_108 rfl ?_
  refine ct_callON C hov hA [] rfl (K_init5 l g o5) kX5_init wC_397 rfl rfl hov.2.2.2.2 rfl ⟨(Nat.le_of_ble_eq_true rfl), (Nat.le_of_ble_eq_true rfl)⟩ hl.1 (Nat.le_of_ble_eq_true rfl) dX9_init_109 ⟨(Nat.le_of_ble_eq_true rfl), (Nat.le_of_ble_eq_true rfl)⟩ (fun u5 => ct_cons ?_)
  refine ct_putFH C (fs' := [.ref o2, .ref o7, .ref o3, .ref o0, .ref o4, .ref o8, .ref o6, .ref o1, .ref o5]) (fty := (.object "UnreadScript$Sheets")) (v := .ref o5) (k := 8) G9 (Nat.le_of_ble_eq_true rfl) rfl rfl (by decide +kernel) rfl rfl (Nat.le_of_ble_eq_true rfl) rfl dX9_init_112 wC_419 ?_
  exact ct_vret C (fun k => if k = 0 then o0 else if k = 1 then o1 else if k = 2 then o2 else if k = 3 then o3 else if k = 4 then o4 else if k = 5 then o5 else if k = 6 then o6 else if k = 7 then o7 else if k = 8 then o8 else 0, fun k => if k = 0 then u0 else if k = 1 then u1 else if k = 2 then u2 else if k = 3 then u3 else if k = 4 then u4 else if k = 5 then u5 else if k = 6 then u6 else if k = 7 then u7 else u8) rfl rfl dX9_init_115
