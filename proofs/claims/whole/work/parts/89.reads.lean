/-! ===== reads, kindName ===== -/
/-- the String constants' characters -/
def sN : List (List Nat) := [[111, 110], [115, 105, 103, 110], [115, 111, 117, 110, 100], [119, 111, 114, 100], [110, 97, 109, 101], [116, 111, 110, 103, 117, 101]]
def sC (i x : Nat) : Nat := (sN.getD i []).getD x 0
theorem sCh_ok : ∀ i, i < 6 → ∀ x, x < s_len.getD i 0 → sCh i x = nI (sC i x) ∧ sC i x < 128 := by decide +kernel
/-- a byte as the class reads it -/
def sBy (b : Nat) : Int32 := (nI b).toInt8.toInt32
theorem sBy_eq : ∀ b, b < 256 → ∀ c, c < 128 → (sBy b = nI c ↔ b = c) := by decide +kernel
section RDS
variable {N : Nat} {σ : Sg} {Q : Option Value → Sg → Prop}
theorem ev_callSt {Qc : Option Value → Sg → Prop} {M M' : MD} {index i pc : Nat} {lv : List (Nat × Value)} {st : List Value} (as : List Value) {st0 : List Value} (hM : MOV M') (hcl : M'.1.cls = "java/lang/String") (hi : i < 6) (hd : decode M.2.1 pc = .ok (.invokevirtual index, 3)) (hw : Cond.methodLink M.1.cls index M'.1 ∈ TB) (hp : (parseMethodDescriptor M'.1.desc).map (fun d => d.parameters.length) = some as.length)
    (hst : st0 = as.reverse ++ .ref (KC + 1 + i) :: st) (hc : (st.map fun v => v.category).sum ≤ 8) (kk : EvM N M' (.ref (KC + 1 + i) :: as) σ Qc) (hqc : ∀ r σ', Qc r σ' → Ev (N + 1) M (pc + 3) lv (r.toList ++ st) σ' Q) : Ev (N + 1) M pc lv st0 σ Q := by
  intro g p l e s m args below meth c H locs ls C hP hS hl
  refine ev_back (as := (.ref (KC + 1 + i) :: as).map (tr g)) (va_runV (C := "java/lang/String") (As := as.map (tr g)) (rest := st.map (tr g)) ⟨C.1, C.2.1, C.2.2.2.1, C.2.2.2.2.1, C.2.2.2.2.2.1⟩ (kk l g) ⟨callB_TB C.2.2.2.2.2.1 hM.1 hw hp, C.2.2.2.2.2.1 _ hM.2.1, hcl ▸ C.2.2.2.2.2.1 _ hM.2.2⟩ ⟨PcOf.blind, vk_recv C.2.2.2.2.2.2.2.2.2.2.2.1 hi hS, fun U hU hW => ⟨rfl, PcOf.go C hP hS U hU hW⟩⟩ rfl (by simp) hl.1 ?_ ?_ hd ⟨Nat.le_refl _, Nat.le_refl _⟩) hqc C hS hl
  · subst hst
    simp [tr]
  · refine lv_room (pc := pc) (m := m) (ls := ls) (rest := st0.map (tr g)) ?_
    rw [List.map_map, show ((fun v : Value => v.category) ∘ tr g) = (fun v => v.category) from funext fun v => tr_cat g v]
    exact hc
theorem ev_aret {M : MD} {pc x : Nat} {lv : List (Nat × Value)} (hr : M.2.2.2 = some (.object "java/lang/String")) (hd : decode M.2.1 pc = .ok (.areturn, 1)) (hQ : Q (some (.ref x)) σ) : Ev N M pc lv [.ref x] σ Q := by
  intro g p l e s m args below meth c H locs ls C hP hS hl
  exact W.aret (v := .ref (g.2.1 x)) C.1 C.2.1 (C.2.2.1.trans hr) (Or.inl ⟨_, rfl⟩) (Or.inr ⟨_, rfl⟩) (ev_post (r := some (.ref x)) hQ hP hS) hS.2.2 hd C.2.2.2.2.2.2.1
theorem C_kindName {k : Nat} (hk : k < 5) (h : Q (some (.ref (KC + 2 + k))) σ) : EvM N mX6_kindName [.int (nI k)] σ Q := by
  refine ev_entry rfl (Nat.le_of_ble_eq_true rfl) (lv := [(0, .int (nI k))]) rfl ?_
  refine ev_iload_n 0 dX6_kindName_0 rfl ?_
  rcases (show k = 0 ∨ k = 1 ∨ k = 2 ∨ k = 3 ∨ k = 4 by omega) with r | r | r | r | r <;> subst r
  · refine ev_tableIn (off := 31) 0 32 dX6_kindName_1 rfl (by decide) (by decide) rfl (by decide) ?_
    exact ev_ldcS1 rfl dX6_kindName_32 (ev_aret rfl dX6_kindName_34 h)
  · refine ev_tableIn (off := 34) 1 35 dX6_kindName_1 rfl (by decide) (by decide) rfl (by decide) ?_
    exact ev_ldcS2 rfl dX6_kindName_35 (ev_aret rfl dX6_kindName_37 h)
  · refine ev_tableIn (off := 37) 2 38 dX6_kindName_1 rfl (by decide) (by decide) rfl (by decide) ?_
    exact ev_ldcS3 rfl dX6_kindName_38 (ev_aret rfl dX6_kindName_40 h)
  · refine ev_tableIn (off := 40) 3 41 dX6_kindName_1 rfl (by decide) (by decide) rfl (by decide) ?_
    exact ev_ldcS4 rfl dX6_kindName_41 (ev_aret rfl dX6_kindName_43 h)
  · refine ev_tableOut 44 dX6_kindName_1 (Or.inr (by decide)) (by decide) ?_
    exact ev_ldcS5 rfl dX6_kindName_44 (ev_aret rfl dX6_kindName_46 h)
/-- the bytes from st to en are those of the String i -/
def eqW (by' : Nat → Nat) (st en i : Nat) : Prop := en - st = s_len.getD i 0 ∧ ∀ x, x < s_len.getD i 0 → by' (st + x) = sC i x
theorem C_reads {by' : Nat → Nat} {i st en : Nat} (hi : i < 6) (h3 : σ.1 228 3 = nI st) (h2 : σ.1 228 2 = nI en) (hse : st ≤ en) (hen : en ≤ 160) (hb : ∀ x, x < en → by' x < 256 ∧ σ.1 229 x = sBy (by' x)) (h1 : eqW by' st en i → Q (some (.int 1)) σ) (h0 : ¬ eqW by' st en i → Q (some (.int 0)) σ) : EvM (N + 4) mX6_reads [.ref 228, .ref (KC + 1 + i)] σ Q := by
  have l6 := s_len_lt i hi
  refine ev_entry rfl (Nat.le_of_ble_eq_true rfl) (lv := [(0, .ref 228), (1, .ref (KC + 1 + i))]) rfl ?_
  refine ev_aload_n 0 dX6_reads_0 rfl ?_
  refine ev_get G6 lay_228 (k := 2) rfl (Nat.le_of_ble_eq_true rfl) dX6_reads_1 w_195 ?_
  refine ev_aload_n 0 dX6_reads_4 rfl ?_
  refine ev_get G6 lay_228 (k := 3) rfl (Nat.le_of_ble_eq_true rfl) dX6_reads_5 w_196 ?_
  refine ev_isub dX6_reads_8 ?_
  rw [h2, h3, pk_sub hse]
  refine ev_aload_n 1 dX6_reads_9 rfl ?_
  refine ev_callSt (N := N + 3) (Qc := fun r s9 => r = some (.int (nI (s_len.getD i 0))) ∧ s9 = σ) (M' := mJ0_length_8abf5) (st := [.int (nI (en - st))]) [] vJ0_length_8abf5 rfl hi dX6_reads_10 w_1011 rfl rfl (Nat.le_of_ble_eq_true rfl) (E_strlen hi ⟨rfl, rfl⟩) ?_
  rintro r σ' ⟨rfl, rfl⟩
  refine ev_icmp_eq 18 dX6_reads_13 (by decide) (fun q => ?_) (fun q => ?_)
  · have el : en - st = s_len.getD i 0 := (nI_eq (by omega) (by omega)).mp q
    refine ev_iconst 0 dX6_reads_18 (by decide) ?_
    refine ev_istore_n (lv' := [(2, .int 0), (0, .ref 228), (1, .ref (KC + 1 + i))]) dX6_reads_19 (Nat.le_of_ble_eq_true rfl) rfl ?_
    have L : ∀ x, x ≤ s_len.getD i 0 → (∀ y, y < x → by' (st + y) = sC i y) → Ev (N + 4) mX6_reads 20 [(2, .int (nI x)), (0, .ref 228), (1, .ref (KC + 1 + i))] [] σ' Q := by
      refine for_up ?_ ?_
      · intro a
        refine ev_iload_n 0 dX6_reads_20 rfl ?_
        refine ev_aload_n 2 dX6_reads_21 rfl ?_
        refine ev_callSt (N := N + 3) (Qc := fun r s9 => r = some (.int (nI (s_len.getD i 0))) ∧ s9 = σ') (M' := mJ0_length_8abf5) (st := [.int (nI (s_len.getD i 0))]) [] vJ0_length_8abf5 rfl hi dX6_reads_22 w_1011 rfl rfl (Nat.le_of_ble_eq_true rfl) (E_strlen hi ⟨rfl, rfl⟩) ?_
        rintro r σ2 ⟨rfl, rfl⟩
        refine ev_icmp_ge 55 dX6_reads_25 (by decide) (fun _ => ?_) (fun q => absurd (nI_le (Nat.le_refl _) (by omega)) q)
        refine ev_iconst 1 dX6_reads_55 (by decide) ?_
        exact ev_zret (ty := .boolean) rfl rfl dX6_reads_56 (h1 ⟨el, a⟩)
      · intro x hx ih a
        obtain ⟨c1, c2⟩ := sCh_ok i hi x hx
        obtain ⟨b1, b2'⟩ := hb (st + x) (by omega)
        refine ev_iload_n 0 dX6_reads_20 rfl ?_
        refine ev_aload_n 2 dX6_reads_21 rfl ?_
        refine ev_callSt (N := N + 3) (Qc := fun r s9 => r = some (.int (nI (s_len.getD i 0))) ∧ s9 = σ') (M' := mJ0_length_8abf5) (st := [.int (nI x)]) [] vJ0_length_8abf5 rfl hi dX6_reads_22 w_1011 rfl rfl (Nat.le_of_ble_eq_true rfl) (E_strlen hi ⟨rfl, rfl⟩) ?_
        rintro r σ2 ⟨rfl, rfl⟩
        refine ev_icmp_ge 55 dX6_reads_25 (by decide) (fun q => absurd q (nI_ge hx (by omega))) (fun _ => ?_)
        refine ev_aload_n 1 dX6_reads_28 rfl ?_
        refine ev_getR (r := 229) G6 lay_228 (k := 0) rfl (Nat.le_of_ble_eq_true rfl) dX6_reads_29 w_193 ?_
        refine ev_aload_n 1 dX6_reads_32 rfl ?_
        refine ev_get G6 lay_228 (k := 3) rfl (Nat.le_of_ble_eq_true rfl) dX6_reads_33 w_196 ?_
        refine ev_iload_n 0 dX6_reads_36 rfl ?_
        refine ev_iadd dX6_reads_37 ?_
        rw [h3, nI_add]
        refine ev_bald lay_229 (Nat.le_of_ble_eq_true rfl) (nvin (by omega) (by omega)) dX6_reads_38 ?_
        rw [cl (by omega), b2']
        refine ev_aload_n 2 dX6_reads_39 rfl ?_
        refine ev_iload_n 0 dX6_reads_40 rfl ?_
        refine ev_callSt (N := N + 3) (Qc := fun r s9 => r = some (.int (sCh i x)) ∧ s9 = σ2) (M' := mJ0_charAt_5068e) (st := [.int (sBy (by' (st + x)))]) [.int (nI x)] vJ0_charAt_5068e rfl hi dX6_reads_41 w_1021 rfl rfl (Nat.le_of_ble_eq_true rfl) (E_charAt hi hx ⟨rfl, rfl⟩) ?_
        rintro r σ3 ⟨rfl, rfl⟩
        rw [c1]
        refine ev_icmp_eq 49 dX6_reads_44 (by decide) (fun z => ?_) (fun z => ?_)
        · refine ev_iinc (lv' := [(2, .int (nI x + 1)), (0, .ref 228), (1, .ref (KC + 1 + i))]) (nI x + 1) 0 dX6_reads_49 rfl rfl (Nat.le_of_ble_eq_true rfl) rfl ?_
          refine ev_goto 20 dX6_reads_52 (by decide) ?_
          rw [nI_1]
          refine ih (fun y hy => ?_)
          by_cases e : y = x
          · rw [e]; exact (sBy_eq _ b1 _ c2).mp z
          · exact a y (by omega)
        · refine ev_iconst 0 dX6_reads_47 (by decide) ?_
          exact ev_zret (ty := .boolean) rfl rfl dX6_reads_48 (h0 (fun w => z ((sBy_eq _ b1 _ c2).mpr (w.2 x hx))))
    exact L 0 (by omega) (fun y hy => absurd hy (Nat.not_lt_zero y))
  · refine ev_iconst 0 dX6_reads_16 (by decide) ?_
    exact ev_zret (ty := .boolean) rfl rfl dX6_reads_17 (h0 (fun w => q (by rw [w.1])))
end RDS
