/-! ===== the law from its entry to its loop ===== -/
theorem dL_0 : decode code 0 = .ok (.new 7, 3) := by decide +kernel
theorem dL_3 : decode code 3 = .ok (.dup, 1) := by decide +kernel
theorem dL_4 : decode code 4 = .ok (.invokespecial 9, 3) := by decide +kernel
theorem dL_7 : decode code 7 = .ok (.astore_n 1, 1) := by decide +kernel
theorem dL_8 : decode code 8 = .ok (.new 10, 3) := by decide +kernel
theorem dL_11 : decode code 11 = .ok (.dup, 1) := by decide +kernel
theorem dL_12 : decode code 12 = .ok (.invokespecial 12, 3) := by decide +kernel
theorem dL_15 : decode code 15 = .ok (.astore_n 2, 1) := by decide +kernel
theorem dL_16 : decode code 16 = .ok (.iconst 0, 1) := by decide +kernel
theorem dL_17 : decode code 17 = .ok (.istore_n 3, 1) := by decide +kernel
theorem wS_113 : Cond.classLink R_law 7 RX9 ∈ TB := lw_in (i := 113) (by decide +kernel) rfl
theorem wS_114 : Cond.instantiable RX9 9 ∈ TB := lw_in (i := 114) (by decide +kernel) rfl
theorem wS_96 : Cond.initialized RX9 ∈ TB := lw_in (i := 96) (by decide +kernel) rfl
theorem wS_115 : Cond.methodLink R_law 9 yX9_init ∈ TB := lw_in (i := 115) (by decide +kernel) rfl
theorem wS_116 : Cond.instanceMethod yX9_init ∈ TB := lw_in (i := 116) (by decide +kernel) rfl
theorem wS_1220 : Cond.classLink R_law 10 RX10 ∈ TB := lw_in (i := 1220) (by decide +kernel) rfl
theorem wS_1221 : Cond.instantiable RX10 63 ∈ TB := lw_in (i := 1221) (by decide +kernel) rfl
theorem wS_106 : Cond.initialized RX10 ∈ TB := lw_in (i := 106) (by decide +kernel) rfl
theorem wS_1222 : Cond.methodLink R_law 12 yX10_init ∈ TB := lw_in (i := 1222) (by decide +kernel) rfl
theorem wS_1223 : Cond.instanceMethod yX10_init ∈ TB := lw_in (i := 1223) (by decide +kernel) rfl
theorem ACel_len : ACel.length = KC := by decide +kernel
theorem acd_ge {k : Nat} (h : KC ≤ k) : acd k = (3, 0, 0, 0) := by
  unfold acd
  rw [List.getD_eq_getElem?_getD, List.getElem?_eq_none (by rw [ACel_len]; exact h)]
  rfl
theorem ga_x {G0 : GC} {hh : Nat → Nat} {uu : Nat → (Nat → Nat) × (Nat → Nat → Nat)} {ext adV : Nat → Nat} {k : Nat} (h : KC ≤ k) : (gA G0 hh uu ext adV).2.1 k = ext k := by
  show adrOf hh uu (ext k) (acd k) = _
  rw [acd_ge h]
  rfl
theorem va_P_nil {D : va_G} {H : Heap} : va_P D G_cl [] H := fun k q h => by simp at h
theorem va_D_nil {A : Nat → Prop} : va_D A [] := ⟨fun i j p q h => by simp at h, fun k q h => by simp at h⟩
/-- from pc 18 on, once the two objects stand -/
theorem to_loop {p : Program} {l : Launch} {e : Env} {s : State} {m : MethodId} {below : List Frame} {meth : Method} {c : Code} {b L : Nat} {xs : Nat → Int32} (hL : L ≤ 2560) (C0 : lw_At p s m meth c b L xs) {G : GC} (hK : va_K G.1 G_cl (tysOf G) s) {q9 q10 : Nat} {u : (Nat → Nat) × (Nat → (Nat → Nat) × (Nat → Nat → Nat))} {v : (Nat → Nat) × (Nat → Nat → Nat)} {H : Heap} {locs : List Loc} {ls : Array Slot} {cells slots : Nat}
    (hP : va_P G.1 G_cl (Wn9 G q9 u ++ Wn10 G q10 v) H) (hD : va_D (fun q : Nat => s.heap.size ≤ q) (Wn9 G q9 u ++ Wn10 G q10 v)) (hS : va_S (fun q : Nat => s.heap.size ≤ q) s.heap H locs) (hl : lv_has ls 4 [(3, .int 0), (2, .ref q10), (1, .ref q9), (0, .ref b)]) (h1 : cells ≤ 600000) (h2 : slots ≤ 7302250) : W p l e room_1 s m #[Value.ref b] below meth c H locs cells slots (lw_Z below #[Value.ref b] s) (F0 m 18 ls []) := by
  obtain ⟨t, adK, adV, hRO⟩ := RO_start C0.2.2.2.2.2.1 C0.2.2.2.2.2.2.2.2.2
  obtain ⟨hh, e9, e10, hh0⟩ : ∃ hh : Nat → Nat, hh 9 = q9 ∧ hh 10 = q10 ∧ ∀ k, k < 9 → hh k = u.1 k := ⟨fun k => if k = 9 then q9 else if k = 10 then q10 else u.1 k, rfl, rfl, fun k hk => by
    show (if k = 9 then q9 else if k = 10 then q10 else u.1 k) = u.1 k
    rw [if_neg (by omega), if_neg (by omega)]⟩
  obtain ⟨uu, f10, uu0⟩ : ∃ uu : Nat → (Nat → Nat) × (Nat → Nat → Nat), uu 10 = v ∧ ∀ k, k < 9 → uu k = u.2 k := ⟨fun k => if k = 10 then v else u.2 k, rfl, fun k hk => by
    show (if k = 10 then v else u.2 k) = u.2 k
    rw [if_neg (by omega)]⟩
  obtain ⟨ext, x0, x7, xK⟩ : ∃ ext : Nat → Nat, ext KC = t ∧ ext (KC + 7) = b ∧ ∀ i, i < 6 → ext (KC + 1 + i) = adK i := by
    refine ⟨fun k => if k = KC then t else if k = KC + 7 then b else adK (k - (KC + 1)), if_pos rfl, ?_, fun i hi => ?_⟩
    · show (if KC + 7 = KC then t else if KC + 7 = KC + 7 then b else adK (KC + 7 - (KC + 1))) = b
      rw [if_neg (by omega), if_pos rfl]
    · show (if KC + 1 + i = KC then t else if KC + 1 + i = KC + 7 then b else adK (KC + 1 + i - (KC + 1))) = adK i
      rw [if_neg (by omega), if_neg (by omega), Nat.add_sub_cancel_left]
  have eW : Wn9 G q9 u ++ Wn10 G q10 v = wsOf (gA G hh uu ext adV) st0 := by
    rw [← Bk_all, e9, e10, f10]
    congr 1
    unfold Wn9
    simp only [hh0 0 (by decide), hh0 1 (by decide), hh0 2 (by decide), hh0 3 (by decide), hh0 4 (by decide), hh0 5 (by decide), hh0 6 (by decide), hh0 7 (by decide), hh0 8 (by decide), uu0 0 (by decide), uu0 1 (by decide), uu0 2 (by decide), uu0 3 (by decide), uu0 4 (by decide), uu0 5 (by decide), uu0 6 (by decide), uu0 7 (by decide), uu0 8 (by decide)]
  rw [eW] at hP hD
  have gK : (gA G hh uu ext adV).2.1 KC = t := (ga_x (Nat.le_refl _)).trans x0
  have g7 : (gA G hh uu ext adV).2.1 (KC + 7) = b := (ga_x (Nat.le_add_right _ _)).trans x7
  have gS : ∀ i, i < 6 → (gA G hh uu ext adV).2.1 (KC + 1 + i) = adK i := fun i hi => (ga_x (by omega)).trans (xK i hi)
  have g0 : (gA G hh uu ext adV).2.1 0 = q9 := (ga_o acd_0).trans e9
  have g245 : (gA G hh uu ext adV).2.1 245 = q10 := (ga_o acd_245).trans e10
  have hge : ∀ k : Nat, k < KC → s.heap.size ≤ (gA G hh uu ext adV).2.1 k := fun k hk => hD.2 k _ (ws_get hk)
  have hI : Inj (gA G hh uu ext adV) := fun i j hi hj h => hD.1 i j _ _ (ws_get hi) (ws_get hj) h
  have hAA : ∀ q, AA (gA G hh uu ext adV) q → s.heap.size ≤ q := by
    rintro q ⟨k, hk, rfl⟩
    exact hge k hk
  have LC0 : LC p s m meth c b L xs (gA G hh uu ext adV) := ⟨C0, hI, hK, hRO _ gK gS rfl hAA, hge, g7, hL⟩
  refine W.widen h1 h2 ?_
  refine va_forget (fun q hq => hS.2.2 q hq) ?_
  have hl2 : lv_has ls 4 (trL (gA G hh uu ext adV) (LVs 0)) := by
    have h3 : lv_has ls 4 [(3, .int 0), (0, .ref b), (1, .ref q9), (2, .ref q10)] := lv_sub hl [0, 3, 2, 1] rfl
    show lv_has ls 4 [(3, .int (nI 0)), (0, .ref ((gA G hh uu ext adV).2.1 (KC + 7))), (1, .ref ((gA G hh uu ext adV).2.1 0)), (2, .ref ((gA G hh uu ext adV).2.1 245))]
    rw [g7, g0, g245]
    exact h3
  exact law_loop LC0 L 0 st0 (by omega) (by omega) Rel_st0 H [] ls hP ⟨hS.1, fun q h3 _ => hS.2.1 q h3 (Nat.not_le.mpr h3), fun q hq => by cases hq⟩ hl2
/-- YOUR PART: from the entry, for every script of at most 2560 ints, the law comes to its end with true -/
theorem whole_start {p : Program} {e : Env} {s : State} {m : MethodId} {below : List Frame} {meth : Method} {c : Code} (l : Launch) (hflags : l.flags = flags0) {b L : Nat} {xs : Nat → Int32} (hL : L ≤ 2560) (C0 : lw_At p s m meth c b L xs) : W p l e room_1 s m #[Value.ref b] below meth c s.heap [] 0 0 (lw_Z below #[Value.ref b] s) (entryFrame m ([Value.ref b] : List Value).toArray 4) := by
  obtain ⟨hx, hb, hr, hml, hown, hts, hX, hbl, hlocks, hgv⟩ := id C0
  have hT : ∀ w ∈ TB, w.before #[Value.ref b] s = true := fun w hw => hts w (List.mem_filter.mp hw).1
  obtain ⟨G, hK, hN⟩ := Kn_start hts
  have hA : ∀ q : Nat, s.heap.size ≤ q → (fun q : Nat => s.heap.size ≤ q) q := fun _ h => h
  have hS : va_S (fun q : Nat => s.heap.size ≤ q) s.heap s.heap [] := va_S.rf
  have hP : va_P G.1 G_cl [] s.heap := va_P_nil
  have hD : va_D (fun q : Nat => s.heap.size ≤ q) [] := va_D_nil
  have hl := lv_entry ([.ref b]) (n := 4) (Nat.le_of_ble_eq_true rfl)
  rw [lg_entry_eq]
  generalize (lg_sl ([.ref b]) ++ List.replicate (4 - (lg_sl ([.ref b])).length) Slot.unset).toArray = ls at hl ⊢
  have hl : lv_has ls 4 [(0, .ref b)] := hl
  refine va_new (ci := 9) (fs := [.null, .null, .null, .null, .null, .null, .null, .null, .null]) hx hb hT G9.2.1 tyX9 G9.2.2.1 hown (hT _ wS_113) (hT _ wS_114) (hT _ wS_96) hK hP hD hS hA G9.1 (hfs_of rfl) (Nat.le_of_ble_eq_true rfl) (Nat.le_of_ble_eq_true rfl) dL_0 (fun q9 H hP hD hS => ?_)
  refine lv_dup hx hb dL_3 rfl ?_
  refine wc_call (X := []) (as := []) (rest := [.ref q9]) hx hb hml hown hT hK hN hA (K_init9 l G q9) kX9_init wS_116 rfl rfl wS_115 rfl ⟨Nat.le_of_ble_eq_true rfl, Nat.le_of_ble_eq_true rfl⟩ hl.1 (Nat.le_of_ble_eq_true rfl) dL_4 ⟨Nat.le_of_ble_eq_true rfl, Nat.le_of_ble_eq_true rfl⟩ hP hD hS (fun u H locs hP hD hS => ?_)
  refine lv_astore_n (lv' := [(1, .ref q9), (0, .ref b)]) hx hb dL_7 rfl hl (by decide) rfl (fun ls hl => ?_)
  refine va_new (ci := 10) (fs := [.int 0, .null, .int 0, .null, .int 0, .null, .null, .int 0, .null, .null, .null, .null, .null, .null, .null, .int 0, .null, .null, .null, .null, .int 0, .null, .null, .null, .int 0, .null, .null, .int 0, .null, .null, .int 0, .null, .null, .int 0, .null, .null, .int 0, .null, .null, .null, .int 0, .int 0, .int 0, .null, .null, .int 0, .int 0, .int 0, .int 0, .int 0, .int 0, .int 0, .int 0, .null, .null, .null, .null, .null, .int 0, .null, .null, .null, .null]) hx hb hT G10.2.1 tyX10 G10.2.2.1 hown (hT _ wS_1220) (hT _ wS_1221) (hT _ wS_106) hK hP hD hS hA G10.1 (hfs_of rfl) (Nat.le_of_ble_eq_true rfl) (Nat.le_of_ble_eq_true rfl) dL_8 (fun q10 H hP hD hS => ?_)
  refine lv_dup hx hb dL_11 rfl ?_
  refine wc_call (X := Wn9 G q9 u) (as := []) (rest := [.ref q10]) hx hb hml hown hT hK hN hA (K_init10 l G q10) kX10_init wS_1223 rfl rfl wS_1222 rfl ⟨Nat.le_of_ble_eq_true rfl, Nat.le_of_ble_eq_true rfl⟩ hl.1 (Nat.le_of_ble_eq_true rfl) dL_12 ⟨Nat.le_of_ble_eq_true rfl, Nat.le_of_ble_eq_true rfl⟩ hP hD hS (fun v H locs hP hD hS => ?_)
  refine lv_astore_n (lv' := [(2, .ref q10), (1, .ref q9), (0, .ref b)]) hx hb dL_15 rfl hl (by decide) rfl (fun ls hl => ?_)
  refine lv_iconst (v := 0) hx hb dL_16 (by decide) ?_
  refine lv_istore_n (lv' := [(3, .int 0), (2, .ref q10), (1, .ref q9), (0, .ref b)]) hx hb dL_17 rfl hl (by decide) rfl (fun ls hl => ?_)
  exact to_loop hL C0 hK hP hD hS hl (Nat.le_of_ble_eq_true rfl) (Nat.le_of_ble_eq_true rfl)
