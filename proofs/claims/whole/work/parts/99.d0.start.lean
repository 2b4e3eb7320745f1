/-! ===== the law's start: what the tables and the Statement give ===== -/
section START
variable {s : State} {b : Nat}
def s_pl : List Nat := [42, 52, 54, 56, 58, 60]
def s_tm (i : Nat) : Term := .string "UnreadScript$Tape" (s_pl.getD i 0)
def L_tm : Term := .static "UnreadScript$Accounts" "LIST" "[I"
theorem fl_L1 : (Cond.arrayOf L_tm .int) ∈ flatC (Jvm.Cond.and given_1 narrow_1) := by decide +kernel
theorem fl_L2 : (Cond.eq (.length L_tm) (.int (Int32.ofNat 8))) ∈ flatC (Jvm.Cond.and given_1 narrow_1) := by decide +kernel
theorem fl_L3 : ∀ j : Fin 8, (Cond.eq (.elem L_tm (.int (Int32.ofNat j.val))) (.int (([1, 2, 4, 5, 6, 10, 12, 60] : List Int32).getD j.val 0))) ∈ flatC (Jvm.Cond.and given_1 narrow_1) := by decide +kernel
theorem fl_S1 : ∀ i : Fin 6, (Cond.exactly (s_tm i.val) "java/lang/String") ∈ flatC (Jvm.Cond.and given_1 narrow_1) := by decide +kernel
theorem fl_S2 : ∀ i : Fin 6, (Cond.eq (.field (s_tm i.val) "java/lang/String" "coder" "B") (.int 0)) ∈ flatC (Jvm.Cond.and given_1 narrow_1) := by decide +kernel
theorem fl_S3 : ∀ i : Fin 6, (Cond.arrayOf (.field (s_tm i.val) "java/lang/String" "value" "[B") .byte) ∈ flatC (Jvm.Cond.and given_1 narrow_1) := by decide +kernel
theorem fl_S4 : ∀ i : Fin 6, (Cond.eq (.length (.field (s_tm i.val) "java/lang/String" "value" "[B")) (.int (Int32.ofNat (s_len.getD i.val 0)))) ∈ flatC (Jvm.Cond.and given_1 narrow_1) := by decide +kernel
theorem fl_S5 : ∀ i : Fin 6, ∀ j : Fin 6, j.val < s_len.getD i.val 0 → (Cond.eq (.elem (.field (s_tm i.val) "java/lang/String" "value" "[B") (.int (Int32.ofNat j.val))) (.int ((s_byt.getD i.val []).getD j.val 0))) ∈ flatC (Jvm.Cond.and given_1 narrow_1) := by decide +kernel
theorem fl_S6 : ∀ i j : Fin 6, i.val < j.val → (Cond.not (Cond.eq (s_tm i.val) (s_tm j.val))) ∈ flatC (Jvm.Cond.and given_1 narrow_1) := by decide +kernel
theorem fl_S7 : ∀ i : Fin 6, s_len.getD i.val 0 ≤ 6 := by decide
theorem fl_C : (Cond.eq (.static "java/lang/String" "COMPACT_STRINGS" "Z") (.int 1)) ∈ flatC (Jvm.Cond.and given_1 narrow_1) := by decide +kernel
theorem fl_P : (Cond.isRef (.static "jdk/internal/util/Preconditions" "SIOOBE_FORMATTER" "Ljava/util/function/BiFunction;")) ∈ flatC (Jvm.Cond.and given_1 narrow_1) := by decide +kernel
theorem tw_L : Cond.laysStatic "UnreadScript$Accounts" "LIST" "[I" ∈ lw_tbl := List.mem_of_getElem? (i := 796) (by decide +kernel)
theorem tw_C : Cond.laysStatic "java/lang/String" "COMPACT_STRINGS" "Z" ∈ lw_tbl := List.mem_of_getElem? (i := 1020) (by decide +kernel)
theorem tw_P : Cond.laysStatic "jdk/internal/util/Preconditions" "SIOOBE_FORMATTER" "Ljava/util/function/BiFunction;" ∈ lw_tbl := List.mem_of_getElem? (i := 1036) (by decide +kernel)
theorem tw_iL : Cond.initialized "UnreadScript$Accounts" ∈ lw_tbl := List.mem_of_getElem? (i := 101) (by decide +kernel)
theorem tw_iC : Cond.initialized "java/lang/String" ∈ lw_tbl := List.mem_of_getElem? (i := 109) (by decide +kernel)
theorem tw_iP : Cond.initialized "jdk/internal/util/Preconditions" ∈ lw_tbl := List.mem_of_getElem? (i := 111) (by decide +kernel)
theorem tw_s0 : Cond.stringRef "UnreadScript$Tape" 42 "on" ∈ lw_tbl := List.mem_of_getElem? (i := 1006) (by decide +kernel)
theorem tw_s1 : Cond.stringRef "UnreadScript$Tape" 52 "sign" ∈ lw_tbl := List.mem_of_getElem? (i := 1062) (by decide +kernel)
theorem tw_s2 : Cond.stringRef "UnreadScript$Tape" 54 "sound" ∈ lw_tbl := List.mem_of_getElem? (i := 1063) (by decide +kernel)
theorem tw_s3 : Cond.stringRef "UnreadScript$Tape" 56 "word" ∈ lw_tbl := List.mem_of_getElem? (i := 1064) (by decide +kernel)
theorem tw_s4 : Cond.stringRef "UnreadScript$Tape" 58 "name" ∈ lw_tbl := List.mem_of_getElem? (i := 1065) (by decide +kernel)
theorem tw_s5 : Cond.stringRef "UnreadScript$Tape" 60 "tongue" ∈ lw_tbl := List.mem_of_getElem? (i := 1066) (by decide +kernel)
theorem tw_aI : Cond.arrayClass .int ∈ lw_tbl := List.mem_of_getElem? (i := 143) (by decide +kernel)
theorem tw_aZ : Cond.arrayClass .boolean ∈ lw_tbl := List.mem_of_getElem? (i := 186) (by decide +kernel)
theorem tw_aB : Cond.arrayClass .byte ∈ lw_tbl := List.mem_of_getElem? (i := 209) (by decide +kernel)
theorem tw_aJ : Cond.arrayClass .long ∈ lw_tbl := List.mem_of_getElem? (i := 350) (by decide +kernel)
theorem tw_O : Cond.arrayOver (.array .int) ∈ lw_tbl := List.mem_of_getElem? (i := 151) (by decide +kernel)
theorem tw_n2 : Cond.methodLinkNest RX9 9 yX2_init RX9 ∈ lw_tbl := List.mem_of_getElem? (i := 123) (by decide +kernel)
theorem tw_n6 : Cond.methodLinkNest RX9 17 yX6_init RX9 ∈ lw_tbl := List.mem_of_getElem? (i := 189) (by decide +kernel)
theorem tw_n0 : Cond.methodLinkNest RX9 39 yX0_init RX9 ∈ lw_tbl := List.mem_of_getElem? (i := 253) (by decide +kernel)
theorem tw_n5 : Cond.methodLinkNest RX9 75 yX5_init RX9 ∈ lw_tbl := List.mem_of_getElem? (i := 396) (by decide +kernel)
def NI : List (String × Nat) := [(RX0, 6), (RX1, 12), (RX2, 5), (RX3, 11), (RX4, 4), (RX5, 3), (RX6, 5), (RX7, 11), (RX8, 15), (RX9, 9), (RX10, 63)]
theorem tw_in : ∀ i : Fin 11, (Cond.instantiable ((NI.getD i.val ("", 0)).1) ((NI.getD i.val ("", 0)).2)) ∈ lw_tbl := by decide +kernel
/-- the static table, the Strings, what String.charAt reads: at the law's start -/
theorem RO_start (hts : ∀ w ∈ lw_tbl, w.before #[Value.ref b] s = true) (hgv : (Jvm.Cond.and given_1 narrow_1).before #[Value.ref b] s = true) :
    ∃ (t : Nat) (adK adV : Nat → Nat), ∀ g : GC, g.2.1 KC = t → (∀ i, i < 6 → g.2.1 (KC + 1 + i) = adK i) → g.2.2.2 = adV → (∀ q, AA g q → s.heap.size ≤ q) → RO g s s.heap := by
  have hs := flat_of_before _ hgv
  have hA : ∀ a : Nat, a < s.heap.size → ¬ (fun q : Nat => s.heap.size ≤ q) a := fun a h1 h2 => by
    have h3 : s.heap.size ≤ a := h2
    omega
  obtain ⟨t, ht, hT⟩ := va_Tof (tm := L_tm) (N := 8) (f := LISTf) (A := fun q : Nat => s.heap.size ≤ q) (by decide) (hs _ fl_L1) (va_eqt (hs _ fl_L2)) (fun j hj => va_eqt (hs _ (fl_L3 ⟨j, hj⟩))) hA
  obtain ⟨adK, adV, hS, hK⟩ := vk_Sof (N := 6) (tm := s_tm) (len := s_len) (byt := s_byt) (A := fun q : Nat => s.heap.size ≤ q) (s := s) (args := #[Value.ref b]) (fun i hi => Nat.lt_of_le_of_lt (fl_S7 ⟨i, hi⟩) (by decide)) (fun i hi => hs _ (fl_S1 ⟨i, hi⟩)) (fun i hi => hs _ (fl_S2 ⟨i, hi⟩)) (fun i hi => hs _ (fl_S3 ⟨i, hi⟩)) (fun i hi => hs _ (fl_S4 ⟨i, hi⟩))
    (fun i hi j hj => hs _ (fl_S5 ⟨i, hi⟩ ⟨j, Nat.lt_of_lt_of_le hj (fl_S7 ⟨i, hi⟩)⟩ hj))
    (fun i j hi hj hne => (Nat.lt_or_gt_of_ne hne).elim (fun h => Or.inl (hs _ (fl_S6 ⟨i, hi⟩ ⟨j, hj⟩ h))) (fun h => Or.inr (hs _ (fl_S6 ⟨j, hj⟩ ⟨i, hi⟩ h)))) hA
  refine ⟨t, adK, adV, fun g h1 h2 h3 h4 => ?_⟩
  have hB : ∀ q, AA g q → (fun q : Nat => s.heap.size ≤ q) q := h4
  have hS' := hS.narrow hB
  have hR : ∀ (i k : Nat) (tx : String), i < 6 → s_pl.getD i 0 = k → Cond.stringRef "UnreadScript$Tape" k tx ∈ lw_tbl → vk_R "UnreadScript$Tape" k tx (g.2.1 (KC + 1 + i)) s := by
    intro i k tx hi hk hw
    subst hk
    rw [h2 i hi]
    exact vk_R.of (hts _ hw) (hK i hi)
  refine ⟨?_, ?_, ⟨fun i hi => ?_, fun i j hi hj e => ?_⟩, ⟨hR 0 42 "on" (by decide) rfl tw_s0, hR 1 52 "sign" (by decide) rfl tw_s1, hR 2 54 "sound" (by decide) rfl tw_s2, hR 3 56 "word" (by decide) rfl tw_s3, hR 4 58 "name" (by decide) rfl tw_s4, hR 5 60 "tongue" (by decide) rfl tw_s5⟩, ?_, ?_⟩
  · rw [h1]
    exact (va_Zof (hts _ tw_L) (hts _ tw_iL) ht hA).narrow hB
  · rw [h1]
    exact hT.narrow hB
  · have h := hS'.1 i hi
    rw [h3]
    show va_O _ (g.2.1 (KC + 1 + i)) _ _ _ ∧ va_OF _ _ _ _ (g.2.1 (KC + 1 + i)) _ _ _ ∧ va_OF _ _ _ _ (g.2.1 (KC + 1 + i)) _ _ _ ∧ _
    rw [h2 i hi]
    exact h
  · have e2 : g.2.1 (KC + 1 + i) = g.2.1 (KC + 1 + j) := e
    rw [h2 i hi, h2 j hj] at e2
    exact hS'.2 i j hi hj e2
  · exact (va_Zof (hts _ tw_C) (hts _ tw_iC) (va_eqi (hs _ fl_C)) hA).narrow hB
  · exact (va_Zqof (hts _ tw_P) (hts _ tw_iP) (hs _ fl_P) hA).narrow hB
/-- an array class of the tables -/
theorem ac_of {A : Array Value} {ty : FieldType} (h : (Cond.arrayClass ty).before A s = true) : ∃ cA : ClassId, ArrOfT s cA ty ∧ s.vm.findClass ("[" ++ ty.toString) = some cA := by
  obtain ⟨cA, kA, comp, h1, h2, h3⟩ := Cond.arrayClass_spec h
  exact ⟨cA, fun n z => ⟨fun k h => (by cases h), kA, h2, comp, h3⟩, h1⟩
theorem ao_of {A : Array Value} (h : (Cond.arrayOver (.array .int)).before A s = true) : ∃ cA : ClassId, ArrOfT s cA (.array .int) ∧ s.vm.findClass ("[" ++ (FieldType.array .int).toString) = some cA := by
  obtain ⟨comp, cA, kA, -, -, h2, h3, h1⟩ := arrayOverA_spec h
  exact ⟨cA, fun n z => ⟨fun k h => (by cases h), kA, h2, comp, h3⟩, h1⟩
theorem Kn_start (hts : ∀ w ∈ lw_tbl, w.before #[Value.ref b] s = true) : ∃ G0 : GC, va_K G0.1 G_cl (tysOf G0) s ∧ NXw s := by
  have hT : ∀ w ∈ TB, w.before #[Value.ref b] s = true := fun w hw => hts w (List.mem_filter.mp hw).1
  have u : ∀ (i : Fin 11) (C : String) (T : u_T) (n : Nat) (ty : Nat → FieldType), GF i.val C T n ty → NI.getD i.val ("", 0) = (C, n) → ∃ (cC : ClassId) (iS : Nat → Nat), ∀ q : vw_C, G_cl[i.val]? = some q → u_Kn s q.1 q.2.1 q.2.2 cC iS := by
    intro i C T n ty G e
    have hw := tw_in i
    rw [e] at hw
    obtain ⟨cC, iS, h⟩ := u_known hT G.2.1 (hts _ hw)
    refine ⟨cC, iS, fun q hq => ?_⟩
    have e2 : (C, T, n) = q := Option.some.inj (G.1.symm.trans hq)
    subst e2
    exact h
  have hc : ∀ c : Nat, ∃ d : ClassId × (Nat → Nat), ∀ q : vw_C, G_cl[c]? = some q → u_Kn s q.1 q.2.1 q.2.2 d.1 d.2 := by
    intro c
    by_cases h : c < 11
    · have h9 : ∃ (cC : ClassId) (iS : Nat → Nat), ∀ q : vw_C, G_cl[c]? = some q → u_Kn s q.1 q.2.1 q.2.2 cC iS := by
        rcases (show c = 0 ∨ c = 1 ∨ c = 2 ∨ c = 3 ∨ c = 4 ∨ c = 5 ∨ c = 6 ∨ c = 7 ∨ c = 8 ∨ c = 9 ∨ c = 10 by omega) with r | r | r | r | r | r | r | r | r | r | r
        · subst r; exact u ⟨0, by decide⟩ _ _ _ _ G0 rfl
        · subst r; exact u ⟨1, by decide⟩ _ _ _ _ G1 rfl
        · subst r; exact u ⟨2, by decide⟩ _ _ _ _ G2 rfl
        · subst r; exact u ⟨3, by decide⟩ _ _ _ _ G3 rfl
        · subst r; exact u ⟨4, by decide⟩ _ _ _ _ G4 rfl
        · subst r; exact u ⟨5, by decide⟩ _ _ _ _ G5 rfl
        · subst r; exact u ⟨6, by decide⟩ _ _ _ _ G6 rfl
        · subst r; exact u ⟨7, by decide⟩ _ _ _ _ G7 rfl
        · subst r; exact u ⟨8, by decide⟩ _ _ _ _ G8 rfl
        · subst r; exact u ⟨9, by decide⟩ _ _ _ _ G9 rfl
        · subst r; exact u ⟨10, by decide⟩ _ _ _ _ G10 rfl
      obtain ⟨cC, iS, h9⟩ := h9
      exact ⟨(cC, iS), h9⟩
    · refine ⟨(0, fun _ => 0), fun q hq => ?_⟩
      rw [List.getElem?_eq_none (by show 11 ≤ c; omega)] at hq
      cases hq
  obtain ⟨dd, hdd⟩ := Classical.axiomOfChoice hc
  obtain ⟨cI, aI, fI⟩ := ac_of (hts _ tw_aI)
  obtain ⟨cZ, aZ, fZ⟩ := ac_of (hts _ tw_aZ)
  obtain ⟨cB, aB, fB⟩ := ac_of (hts _ tw_aB)
  obtain ⟨cJ, aJ, fJ⟩ := ac_of (hts _ tw_aJ)
  obtain ⟨cO, aO, fO⟩ := ao_of (hts _ tw_O)
  refine ⟨((fun c => (dd c).1, fun c => (dd c).2), fun _ => 0, fun k => if k = 0 then cI else if k = 1 then cZ else if k = 2 then cB else if k = 3 then cJ else cO, fun _ => 0), ⟨hdd, fun k q hq => ?_⟩, va_AOA.of (hts _ tw_O), va_Nw.of rfl (hts _ tw_n2), va_Nw.of rfl (hts _ tw_n6), va_Nw.of rfl (hts _ tw_n0), va_Nw.of rfl (hts _ tw_n5)⟩
  match k, hq with
  | 0, hq => cases hq; exact ⟨aI, fI⟩
  | 1, hq => cases hq; exact ⟨aZ, fZ⟩
  | 2, hq => cases hq; exact ⟨aB, fB⟩
  | 3, hq => cases hq; exact ⟨aJ, fJ⟩
  | 4, hq => cases hq; exact ⟨aO, fO⟩
  | k + 5, hq => cases hq
end START
