/-! ===== the String methods ===== -/
section ST
variable {N : Nat} {σ : Sg} {Q : Option Value → Sg → Prop}
/-- a contract over raw arguments -/
def EvR (N : Nat) (M : MD) (aF : GC → List Value) (σ : Sg) (Q : Option Value → Sg → Prop) : Prop :=
  ∀ (l : Launch) (g : GC), Met l M.1 (Cond.code M.1 M.2.1 M.2.2.1 M.2.2.2 :: TB) (RM N) (va_Pc (aF g) (PcOf g σ)) (QcOf g Q) 0 0 (AA g)
theorem rb_entry {M : MD} {aF : GC → List Value} (hM : plainName M.1.cls = true) (hn : ∀ g, (lg_sl (aF g)).length ≤ M.2.2.1)
    (kk : ∀ (g : GC) (p : Program) (l : Launch) (e : Env) (s : State) (m : MethodId) (args : Array Value) (below : List Frame) (meth : Method) (c : Code) (ls : Array Slot), CX M g p s m args meth c → va_P g.1 G_cl (wsOf g σ) s.heap → va_S (AA g) s.heap s.heap [] → lv_has ls M.2.2.1 (lv_args 0 (aF g)) → W p l e (RM N) s m args below meth c s.heap [] 0 0 (MQ below (QcOf g Q) args s 0 0 (AA g)) (F0 m 0 ls [])) : EvR N M aF σ Q := by
  intro l g
  refine Met.ofW (cc := M.2.1) (maxL := M.2.2.1) (ret := M.2.2.2) hM rfl ?_
  intro p e s m args below meth c s₁ B hml hv
  obtain ⟨rfl, hI, hP, hK, hR⟩ := hv
  have hts := atoms_spec (ws := Cond.code M.1 M.2.1 M.2.2.1 M.2.2.2 :: TB) B.pre
  have hl := lv_entry (aF g) (n := M.2.2.1) (hn g)
  rw [lg_entry_eq]
  exact kk g p l e s m _ below meth c _ ⟨B.exec, B.bytes, B.returns, hml, findClass_of_methodNamed B.named, fun w hw => hts w (List.mem_cons_of_mem _ hw), B.notSynchronized, hI, hK, hR⟩ hP va_S.rf hl
theorem rb_back {Qc : Option Value → Sg → Prop} {g : GC} {p : Program} {l : Launch} {e : Env} {s : State} {m : MethodId} {args : Array Value} {below : List Frame} {meth : Method} {c : Code} {H : Heap} {locs : List Loc} {ls : Array Slot} {st0 st : List Value} {as : Array Value} {pc : Nat}
    (hr : va_Run p l e (RM (N + 1)) s m args below meth c H locs 0 0 0 0 (F0 m pc ls st0) st (QcOf g Qc as) (AA g)) (hqc : ∀ (r : Option Value) (σ' : Sg) (H1 : Heap) (locs1 : List Loc), Qc r σ' → va_P g.1 G_cl (wsOf g σ') H1 → va_S (AA g) s.heap H1 locs1 → W p l e (RM (N + 1)) s m args below meth c H1 locs1 0 0 (MQ below (QcOf g Q) args s 0 0 (AA g)) (F0 m (pc + 3) ls ((r.map (tr g)).toList ++ st))) (hS : va_S (AA g) s.heap H locs) :
    W p l e (RM (N + 1)) s m args below meth c H locs 0 0 (MQ below (QcOf g Q) args s 0 0 (AA g)) (F0 m pc ls st0) := by
  intro T hT X
  obtain ⟨v, st₀, t, T', L, h0, X', hL, e1, e2, ⟨⟨r, σ', hv, hq, hb⟩, hz, hk⟩, stp⟩ := hr T hT X
  cases hv
  rw [h0] at hz hk
  have hS1 : va_S (AA g) s.heap T'.heap (locs ++ L) := ⟨Nat.le_trans hS.1 (by rw [e1]; exact hz), fun q h1 h2 => by rw [e1, hk q (Nat.lt_of_lt_of_le h1 hS.1) h2]; exact hS.2.1 q h1 h2, fun q hq => by
      rcases List.mem_append.mp hq with h | h
      · exact hS.2.2 q h
      · exact hL q h⟩
  obtain ⟨t2, a1, b1⟩ := hqc r σ' T'.heap (locs ++ L) hq (by rw [e1]; exact hb) hS1 T' rfl X'
  exact ⟨t2, stp t2 a1, b1⟩
/-- a static call, over raw arguments -/
theorem rb_callS {Qc : Option Value → Sg → Prop} {M M' : MD} {aF : GC → List Value} {n index pc : Nat} {g : GC} {p : Program} {l : Launch} {e : Env} {s : State} {m : MethodId} {args : Array Value} {below : List Frame} {meth : Method} {c : Code} {H : Heap} {locs : List Loc} {ls : Array Slot} {st0 st : List Value} (hM : MOS M') (hd : decode M.2.1 pc = .ok (.invokestatic index, 3)) (hw : Cond.methodLink M.1.cls index M'.1 ∈ TB) (hp : (parseMethodDescriptor M'.1.desc).map (fun d => d.parameters.length) = some n) (hn : (aF g).length = n) (hst : st0 = (aF g).reverse ++ st) (hc : (st.map fun v => v.category).sum ≤ 8) (kk : EvR N M' aF σ Qc)
    (C : CX M g p s m args meth c) (hP : va_P g.1 G_cl (wsOf g σ) H) (hS : va_S (AA g) s.heap H locs) (hl : M.2.2.1 = ls.size)
    (hqc : ∀ (r : Option Value) (σ' : Sg) (H1 : Heap) (locs1 : List Loc), Qc r σ' → va_P g.1 G_cl (wsOf g σ') H1 → va_S (AA g) s.heap H1 locs1 → W p l e (RM (N + 1)) s m args below meth c H1 locs1 0 0 (MQ below (QcOf g Q) args s 0 0 (AA g)) (F0 m (pc + 3) ls ((r.map (tr g)).toList ++ st))) :
    W p l e (RM (N + 1)) s m args below meth c H locs 0 0 (MQ below (QcOf g Q) args s 0 0 (AA g)) (F0 m pc ls st0) := by
  refine rb_back (as := (aF g).toArray) (va_runS (nL := M.2.2.1) (As := aF g) (rest := st) ⟨C.1, C.2.1, C.2.2.2.1, C.2.2.2.2.1, C.2.2.2.2.2.1⟩ (kk l g) ⟨callB_TB C.2.2.2.2.2.1 hM.1 hw hp, C.2.2.2.2.2.1 _ hM.2⟩ ⟨PcOf.blind, fun U hU hW => ⟨rfl, PcOf.go C hP hS U hU hW⟩⟩ rfl hn hl.symm ?_ ?_ hd ⟨Nat.le_refl _, Nat.le_refl _⟩) hqc hS
  · exact hst
  · exact lv_room (pc := pc) (m := m) (ls := ls) (rest := st0) hc
/-- a call of a String constant -/
theorem rb_callV {Qc : Option Value → Sg → Prop} {M M' : MD} {aF : GC → List Value} {n index pc i : Nat} {g : GC} {p : Program} {l : Launch} {e : Env} {s : State} {m : MethodId} {args : Array Value} {below : List Frame} {meth : Method} {c : Code} {H : Heap} {locs : List Loc} {ls : Array Slot} {st0 st : List Value} (hM : MOV M') (hcl : M'.1.cls = "java/lang/String") (hi : i < 6) (hd : decode M.2.1 pc = .ok (.invokevirtual index, 3)) (hw : Cond.methodLink M.1.cls index M'.1 ∈ TB) (hp : (parseMethodDescriptor M'.1.desc).map (fun d => d.parameters.length) = some n) (hn : (aF g).length = n) (hst : st0 = (aF g).reverse ++ .ref (g.2.1 (KC + 1 + i)) :: st) (hc : (st.map fun v => v.category).sum ≤ 8) (kk : EvR N M' (fun g => .ref (g.2.1 (KC + 1 + i)) :: aF g) σ Qc)
    (C : CX M g p s m args meth c) (hP : va_P g.1 G_cl (wsOf g σ) H) (hS : va_S (AA g) s.heap H locs) (hl : M.2.2.1 = ls.size)
    (hqc : ∀ (r : Option Value) (σ' : Sg) (H1 : Heap) (locs1 : List Loc), Qc r σ' → va_P g.1 G_cl (wsOf g σ') H1 → va_S (AA g) s.heap H1 locs1 → W p l e (RM (N + 1)) s m args below meth c H1 locs1 0 0 (MQ below (QcOf g Q) args s 0 0 (AA g)) (F0 m (pc + 3) ls ((r.map (tr g)).toList ++ st))) :
    W p l e (RM (N + 1)) s m args below meth c H locs 0 0 (MQ below (QcOf g Q) args s 0 0 (AA g)) (F0 m pc ls st0) := by
  refine rb_back (as := (.ref (g.2.1 (KC + 1 + i)) :: aF g).toArray) (va_runV (nL := M.2.2.1) (C := "java/lang/String") (As := aF g) (rest := st) ⟨C.1, C.2.1, C.2.2.2.1, C.2.2.2.2.1, C.2.2.2.2.2.1⟩ (kk l g) ⟨callB_TB C.2.2.2.2.2.1 hM.1 hw hp, C.2.2.2.2.2.1 _ hM.2.1, hcl ▸ C.2.2.2.2.2.1 _ hM.2.2⟩ ⟨PcOf.blind, vk_recv C.2.2.2.2.2.2.2.2.2.2.2.1 hi hS, fun U hU hW => ⟨rfl, PcOf.go C hP hS U hU hW⟩⟩ rfl hn hl.symm ?_ ?_ hd ⟨Nat.le_refl _, Nat.le_refl _⟩) hqc hS
  · exact hst
  · exact lv_room (pc := pc) (m := m) (ls := ls) (rest := st0) hc
theorem E_pre {x y : Int32} (v : Value) (hv : v.category = 1) (h1 : ¬ x < 0) (h2 : x < y) (h : Q (some (.int x)) σ) : EvR N mJ3_checkIndex_8e157 (fun _ => [.int x, .int y, v]) σ Q := by
  refine rb_entry rfl (fun g => ?_) ?_
  · show (lg_sl [.int x, .int y, v]).length ≤ 3
    cases v <;> first | exact Nat.le_of_ble_eq_true rfl | exact absurd (show (2 : Nat) = 1 from hv) (by decide)
  intro g p l e s m args below meth c ls C hP hS hl
  have hl' : lv_has ls 3 [(0, .int x), (1, .int y), (2, v)] := hl
  refine lv_iload_n C.1 C.2.1 dJ3_checkIndex_8e157_0 rfl (lv_at hl' 0 rfl) ?_
  refine lv_if_lt C.1 C.2.1 (tgt := 9) dJ3_checkIndex_8e157_1 (by decide) (fun q => absurd q h1) (fun _ => ?_)
  refine lv_iload_n C.1 C.2.1 dJ3_checkIndex_8e157_4 rfl (lv_at hl' 0 rfl) ?_
  refine lv_iload_n C.1 C.2.1 dJ3_checkIndex_8e157_5 rfl (lv_at hl' 1 rfl) ?_
  refine lv_icmp_lt C.1 C.2.1 (tgt := 16) dJ3_checkIndex_8e157_6 (by decide) (fun _ => ?_) (fun q => absurd h2 q)
  refine lv_iload_n C.1 C.2.1 dJ3_checkIndex_8e157_16 rfl (lv_at hl' 0 rfl) ?_
  exact W.iret (v := x) C.1 C.2.1 (C.2.2.1.trans rfl) (ev_post (r := some (.int x)) h hP hS) hS.2.2 dJ3_checkIndex_8e157_17 C.2.2.2.2.2.2.1
theorem E_chk {x y : Int32} (h1 : ¬ x < 0) (h2 : x < y) (h : Q none σ) : EvR (N + 1) mJ0_checkIndex_df160 (fun _ => [.int x, .int y]) σ Q := by
  refine rb_entry rfl (fun g => Nat.le_of_ble_eq_true rfl) ?_
  intro g p l e s m args below meth c ls C hP hS hl
  have hl' : lv_has ls 2 [(0, .int x), (1, .int y)] := hl
  refine lv_iload_n C.1 C.2.1 dJ0_checkIndex_df160_0 rfl (lv_at hl' 0 rfl) ?_
  refine lv_iload_n C.1 C.2.1 dJ0_checkIndex_df160_1 rfl (lv_at hl' 1 rfl) ?_
  have go : ∀ v : Value, v.category = 1 → W p l e (RM (N + 1)) s m args below meth c s.heap [] 0 0 (MQ below (QcOf g Q) args s 0 0 (AA g)) (F0 m 5 ls [v, .int y, .int x]) := fun v hv => by
    refine rb_callS (M' := mJ3_checkIndex_8e157) (aF := fun _ => [.int x, .int y, v]) (st := []) (Qc := fun r s9 => r = some (.int x) ∧ s9 = σ) (σ := σ) vJ3_checkIndex_8e157 dJ0_checkIndex_df160_5 w_1037 rfl rfl rfl (by decide) (E_pre v hv h1 h2 ⟨rfl, rfl⟩) C hP hS hl.1.symm ?_
    rintro r σ' H1 locs1 ⟨rfl, rfl⟩ hP1 hS1
    refine lv_pop C.1 C.2.1 dJ0_checkIndex_df160_8 rfl ?_
    exact W.vret C.1 C.2.1 (C.2.2.1.trans rfl) (ev_post (r := none) h hP1 hS1) hS1.2.2 dJ0_checkIndex_df160_9 C.2.2.2.2.2.2.1
  rcases C.2.2.2.2.2.2.2.2.2.2.2.2.2.2 with h5 | ⟨t, h5⟩
  · exact va_gets C.1 C.2.1 h5 hS C.2.2.2.2.1 (C.2.2.2.2.2.1 _ w_1035) (fun _ h => h) dJ0_checkIndex_df160_2 (go .null rfl)
  · exact va_gets C.1 C.2.1 h5 hS C.2.2.2.2.1 (C.2.2.2.2.2.1 _ w_1035) (fun _ h => h) dJ0_checkIndex_df160_2 (go (.ref t) rfl)
def sB (i k : Nat) : Int32 := (s_byt.getD i []).getD k 0
def sCh (i k : Nat) : Int32 := ((sB i k &&& 255).toUInt32 % 65536).toInt32
theorem e_sh0 : ∀ i, i < 6 → Int32.ofNat (s_len.getD i 0) >>> ((0 : Int32) &&& 31) = nI (s_len.getD i 0) := by decide
theorem s_len_lt : ∀ i, i < 6 → s_len.getD i 0 ≤ 6 := by decide
theorem E_l1 {i k : Nat} (hi : i < 6) (hk : k < s_len.getD i 0) (h : Q (some (.int (sCh i k))) σ) : EvR (N + 2) mJ1_charAt_3b067 (fun g => [.ref (g.2.2.2 i), .int (nI k)]) σ Q := by
  have l6 := s_len_lt i hi
  refine rb_entry rfl (fun g => Nat.le_of_ble_eq_true rfl) ?_
  intro g p l e s m args below meth c ls C hP hS hl
  have hl' : lv_has ls 2 [(0, .ref (g.2.2.2 i)), (1, .int (nI k))] := hl
  have hT := (C.2.2.2.2.2.2.2.2.2.2.2.1.1 i hi).2.2.2
  refine lv_iload_n C.1 C.2.1 dJ1_charAt_3b067_0 rfl (lv_at hl' 1 rfl) ?_
  refine lv_aload_n C.1 C.2.1 dJ1_charAt_3b067_1 rfl (lv_at hl' 0 rfl) ?_
  refine va_tlen C.1 C.2.1 hT hS rfl dJ1_charAt_3b067_2 ?_
  refine rb_callS (M' := mJ0_checkIndex_df160) (aF := fun _ => [.int (nI k), .int (Int32.ofNat (s_len.getD i 0))]) (st := []) (Qc := fun r s9 => r = none ∧ s9 = σ) (σ := σ) vJ0_checkIndex_df160 dJ1_charAt_3b067_3 w_1032 rfl rfl rfl (by decide) (E_chk (nI_pos (by omega)) (nI_lt hk (by omega)) ⟨rfl, rfl⟩) C hP hS hl.1.symm ?_
  rintro r σ' H1 locs1 ⟨rfl, rfl⟩ hP1 hS1
  refine lv_aload_n C.1 C.2.1 dJ1_charAt_3b067_6 rfl (lv_at hl' 0 rfl) ?_
  refine lv_iload_n C.1 C.2.1 dJ1_charAt_3b067_7 rfl (lv_at hl' 1 rfl) ?_
  refine va_tb C.1 C.2.1 hT hS1 (nvin hk (by omega)) (v := .int (sB i k)) (by rw [cl (by omega)]; rfl) dJ1_charAt_3b067_8 ?_
  refine lv_sipush C.1 C.2.1 dJ1_charAt_3b067_9 (v := 255) (by decide) ?_
  refine lv_iand C.1 C.2.1 dJ1_charAt_3b067_12 ?_
  refine lv_i2c C.1 C.2.1 dJ1_charAt_3b067_13 (v := sCh i k) rfl ?_
  exact W.zret (v := sCh i k) C.1 C.2.1 (C.2.2.1.trans rfl) (pk_nc _) (ev_post (r := some (.int (sCh i k))) h hP1 hS1) hS1.2.2 dJ1_charAt_3b067_14 C.2.2.2.2.2.2.1
theorem E_latin {i : Nat} (hi : i < 6) (h : Q (some (.int 1)) σ) : EvR N mJ0_isLatin1_aae02 (fun g => [.ref (g.2.1 (KC + 1 + i))]) σ Q := by
  refine rb_entry rfl (fun g => Nat.le_of_ble_eq_true rfl) ?_
  intro g p l e s m args below meth c ls C hP hS hl
  have hl' : lv_has ls 1 [(0, .ref (g.2.1 (KC + 1 + i)))] := hl
  have hO := (C.2.2.2.2.2.2.2.2.2.2.2.1.1 i hi).2.1
  refine va_gets C.1 C.2.1 C.2.2.2.2.2.2.2.2.2.2.2.2.2.1 hS C.2.2.2.2.1 (C.2.2.2.2.2.1 _ w_1019) (fun _ h => h) dJ0_isLatin1_aae02_0 ?_
  refine lv_if_eq C.1 C.2.1 (tgt := 17) dJ0_isLatin1_aae02_3 (by decide) (fun q => absurd q (by decide)) (fun _ => ?_)
  refine lv_aload_n C.1 C.2.1 dJ0_isLatin1_aae02_6 rfl (lv_at hl' 0 rfl) ?_
  refine vk_getf C.1 C.2.1 hO hS C.2.2.2.2.1 (C.2.2.2.2.2.1 _ w_1770) (fun _ h => h) dJ0_isLatin1_aae02_7 ?_
  refine lv_if_ne C.1 C.2.1 (tgt := 17) dJ0_isLatin1_aae02_10 (by decide) (fun q => absurd rfl q) (fun _ => ?_)
  refine lv_iconst C.1 C.2.1 dJ0_isLatin1_aae02_13 (v := 1) (by decide) ?_
  refine lv_goto C.1 C.2.1 (tgt := 18) dJ0_isLatin1_aae02_14 (by decide) ?_
  exact W.zret (v := 1) C.1 C.2.1 (C.2.2.1.trans rfl) rfl (ev_post (r := some (.int 1)) h hP hS) hS.2.2 dJ0_isLatin1_aae02_18 C.2.2.2.2.2.2.1
theorem E_coder {i : Nat} (hi : i < 6) (h : Q (some (.int 0)) σ) : EvR N mJ0_coder_7d493 (fun g => [.ref (g.2.1 (KC + 1 + i))]) σ Q := by
  refine rb_entry rfl (fun g => Nat.le_of_ble_eq_true rfl) ?_
  intro g p l e s m args below meth c ls C hP hS hl
  have hl' : lv_has ls 1 [(0, .ref (g.2.1 (KC + 1 + i)))] := hl
  have hO := (C.2.2.2.2.2.2.2.2.2.2.2.1.1 i hi).2.1
  refine va_gets C.1 C.2.1 C.2.2.2.2.2.2.2.2.2.2.2.2.2.1 hS C.2.2.2.2.1 (C.2.2.2.2.2.1 _ w_1019) (fun _ h => h) dJ0_coder_7d493_0 ?_
  refine lv_if_eq C.1 C.2.1 (tgt := 13) dJ0_coder_7d493_3 (by decide) (fun q => absurd q (by decide)) (fun _ => ?_)
  refine lv_aload_n C.1 C.2.1 dJ0_coder_7d493_6 rfl (lv_at hl' 0 rfl) ?_
  refine vk_getf C.1 C.2.1 hO hS C.2.2.2.2.1 (C.2.2.2.2.2.1 _ w_1770) (fun _ h => h) dJ0_coder_7d493_7 ?_
  refine lv_goto C.1 C.2.1 (tgt := 14) dJ0_coder_7d493_10 (by decide) ?_
  exact W.zret (v := 0) C.1 C.2.1 (C.2.2.1.trans rfl) rfl (ev_post (r := some (.int 0)) h hP hS) hS.2.2 dJ0_coder_7d493_14 C.2.2.2.2.2.2.1
theorem E_strlen {i : Nat} (hi : i < 6) (h : Q (some (.int (nI (s_len.getD i 0)))) σ) : EvM (N + 1) mJ0_length_8abf5 [.ref (KC + 1 + i)] σ Q := by
  have l6 := s_len_lt i hi
  show EvR (N + 1) mJ0_length_8abf5 (fun g => [.ref (g.2.1 (KC + 1 + i))]) σ Q
  refine rb_entry rfl (fun g => Nat.le_of_ble_eq_true rfl) ?_
  intro g p l e s m args below meth c ls C hP hS hl
  have hl' : lv_has ls 1 [(0, .ref (g.2.1 (KC + 1 + i)))] := hl
  have hO := C.2.2.2.2.2.2.2.2.2.2.2.1.1 i hi
  refine lv_aload_n C.1 C.2.1 dJ0_length_8abf5_0 rfl (lv_at hl' 0 rfl) ?_
  refine vk_getf C.1 C.2.1 hO.2.2.1 hS C.2.2.2.2.1 (C.2.2.2.2.2.1 _ w_1769) (fun _ h => h) dJ0_length_8abf5_1 ?_
  refine va_tlen C.1 C.2.1 hO.2.2.2 hS rfl dJ0_length_8abf5_4 ?_
  refine lv_aload_n C.1 C.2.1 dJ0_length_8abf5_5 rfl (lv_at hl' 0 rfl) ?_
  refine rb_callV (M' := mJ0_coder_7d493) (aF := fun _ => []) (st := [.int (Int32.ofNat (s_len.getD i 0))]) (Qc := fun r s9 => r = some (.int 0) ∧ s9 = σ) (σ := σ) vJ0_coder_7d493 rfl hi dJ0_length_8abf5_6 w_1015 rfl rfl rfl (Nat.le_of_ble_eq_true rfl) (E_coder hi ⟨rfl, rfl⟩) C hP hS hl.1.symm ?_
  rintro r σ' H1 locs1 ⟨rfl, rfl⟩ hP1 hS1
  refine lv_ishr C.1 C.2.1 dJ0_length_8abf5_9 ?_
  rw [e_sh0 i hi]
  exact W.iret (v := nI (s_len.getD i 0)) C.1 C.2.1 (C.2.2.1.trans rfl) (ev_post (r := some (.int (nI (s_len.getD i 0)))) h hP1 hS1) hS1.2.2 dJ0_length_8abf5_10 C.2.2.2.2.2.2.1
theorem E_charAt {i k : Nat} (hi : i < 6) (hk : k < s_len.getD i 0) (h : Q (some (.int (sCh i k))) σ) : EvM (N + 3) mJ0_charAt_5068e [.ref (KC + 1 + i), .int (nI k)] σ Q := by
  show EvR (N + 3) mJ0_charAt_5068e (fun g => [.ref (g.2.1 (KC + 1 + i)), .int (nI k)]) σ Q
  refine rb_entry rfl (fun g => Nat.le_of_ble_eq_true rfl) ?_
  intro g p l e s m args below meth c ls C hP hS hl
  have hl' : lv_has ls 2 [(0, .ref (g.2.1 (KC + 1 + i))), (1, .int (nI k))] := hl
  have hO := C.2.2.2.2.2.2.2.2.2.2.2.1.1 i hi
  refine lv_aload_n C.1 C.2.1 dJ0_charAt_5068e_0 rfl (lv_at hl' 0 rfl) ?_
  refine rb_callV (N := N + 2) (M' := mJ0_isLatin1_aae02) (aF := fun _ => []) (st := []) (Qc := fun r s9 => r = some (.int 1) ∧ s9 = σ) (σ := σ) vJ0_isLatin1_aae02 rfl hi dJ0_charAt_5068e_1 w_1025 rfl rfl rfl (by decide) (E_latin hi ⟨rfl, rfl⟩) C hP hS hl.1.symm ?_
  rintro r σ' H1 locs1 ⟨rfl, rfl⟩ hP1 hS1
  refine lv_if_eq C.1 C.2.1 (tgt := 16) dJ0_charAt_5068e_4 (by decide) (fun q => absurd q (by decide)) (fun _ => ?_)
  refine lv_aload_n C.1 C.2.1 dJ0_charAt_5068e_7 rfl (lv_at hl' 0 rfl) ?_
  refine vk_getf C.1 C.2.1 hO.2.2.1 hS1 C.2.2.2.2.1 (C.2.2.2.2.2.1 _ w_1769) (fun _ h => h) dJ0_charAt_5068e_8 ?_
  refine lv_iload_n C.1 C.2.1 dJ0_charAt_5068e_11 rfl (lv_at hl' 1 rfl) ?_
  refine rb_callS (N := N + 2) (M' := mJ1_charAt_3b067) (aF := fun g => [.ref (g.2.2.2 i), .int (nI k)]) (st := []) (Qc := fun r s9 => r = some (.int (sCh i k)) ∧ s9 = σ') (σ := σ') vJ1_charAt_3b067 dJ0_charAt_5068e_12 w_1029 rfl rfl rfl (by decide) (E_l1 hi hk ⟨rfl, rfl⟩) C hP1 hS1 hl.1.symm ?_
  rintro r σ2 H2 locs2 ⟨rfl, rfl⟩ hP2 hS2
  exact W.zret (v := sCh i k) C.1 C.2.1 (C.2.2.1.trans rfl) (pk_nc _) (ev_post (r := some (.int (sCh i k))) h hP2 hS2) hS2.2.2 dJ0_charAt_5068e_15 C.2.2.2.2.2.2.1
end ST
