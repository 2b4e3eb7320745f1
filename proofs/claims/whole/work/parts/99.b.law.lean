/-! THE CLAIM OUT OF ONE WALK OF THE LAW'S BODY. Your part is whole_start (and what it stands on); all else here is the same for every law, but numbers. -/
def R_law : String := "UnreadScriptLaw"
def lw_P (b : Addr) (xs : List Int32) (args : Array Value) (s : State) : Prop := args = #[.ref b] ∧ s.IntsAt b xs ∧ xs.length ≤ 2560 ∧ (Jvm.Cond.and given_1 narrow_1).before args s = true
def lw_Q (_ : Array Value) (s : State) (o : Outcome) (t : State) : Prop := o = .returned (some (.int 1)) ∧ Framed s o t [] 600000 7302250
def lw_Z (below : List Frame) (a : Array Value) (s : State) : State → Prop := fun t => ∃ o, t.status = .running ∧ Ended t below o ∧ lw_Q a s o t
/-- the law's own end, with 1 on the stack, nothing written that was there before, its room as the claim has it -/
theorem lw_ret {p : Program} {l : Launch} {e : Env} {s : State} {m : MethodId} {below : List Frame} {meth : Method} {c : Code} {b : Nat} (hx : p.tables.exec = Jvm.exec) (hb : c.code = code) (hr : meth.sig.returnType = ret) (hlocks : meth.locks = false) {pc : Nat} {H : Heap} {ls : Array Slot} (hdg : decode code pc = .ok (.ireturn, 1)) : W p l e room_1 s m #[Value.ref b] below meth c H [] 600000 7302250 (lw_Z below #[Value.ref b] s) (F0 m pc ls [.int 1]) := by
  intro T hT X
  obtain ⟨fs, hret, hrun, hended, hW, hframe⟩ := X.leave (v := some (.int 1)) (hlocks := hlocks) (fun h => by rw [hr] at h; cases h)
  have hmeth' : T.vm.method? m = some meth := X.method'
  refine ⟨T.setFrames fs, ?_, .returned (some (.int 1)), hrun, hended, rfl, ⟨_, rfl⟩, hW, hframe⟩
  jvm_step X.here [X.here.top, hx, hb, hdg, hmeth', hr, ret, narrow_b1]
  (try refine ⟨rfl, ?_⟩); (try refine ⟨rfl, ?_⟩)
  first | (intro acts; rw [hret _ acts rfl rfl rfl]) | rw [hret _ _ rfl rfl rfl]
  exact Steps.refl _
/-- what holds at the law's entry: the machine, the code, the tables' words (any of lw_tbl by 'hts w (by decide +kernel)'), the script of L ints xs at the cell b, what the Statement gives of the start (any of its parts by flat_of_before) -/
def lw_At (p : Program) (s : State) (m : MethodId) (meth : Method) (c : Code) (b L : Nat) (xs : Nat → Int32) : Prop :=
  p.tables.exec = Jvm.exec ∧ c.code = code ∧ meth.sig.returnType = ret ∧ c.maxLocals = 4 ∧ s.vm.findClass R_law = some m.cls ∧ (∀ w ∈ lw_tbl, w.before #[Value.ref b] s = true) ∧ va_X b L xs s s.heap ∧ b < s.heap.size ∧ meth.locks = false ∧ (Jvm.Cond.and given_1 narrow_1).before #[Value.ref b] s = true
/-! ===== rows of the law ===== -/
theorem and63 (y : Int32) : ∃ n, n < 64 ∧ y &&& 63 = nI n := by
  refine ⟨(y &&& 63).toBitVec.toNat, ?_, ?_⟩
  · rw [Int32.toBitVec_and, BitVec.toNat_and]
    exact Nat.lt_of_le_of_lt Nat.and_le_right (by decide)
  · apply Int32.toBitVec_inj.mp
    show _ = BitVec.ofNat 32 _
    rw [BitVec.ofNat_toNat]
    exact (BitVec.setWidth_eq _).symm
def LVs (i : Nat) : List (Nat × Value) := [(3, .int (nI i)), (0, .ref (KC + 7)), (1, .ref 0), (2, .ref 245)]
/-- what holds all along the law's loop -/
def LC (p : Program) (s : State) (m : MethodId) (meth : Method) (c : Code) (b L : Nat) (xs : Nat → Int32) (g : GC) : Prop := lw_At p s m meth c b L xs ∧ Inj g ∧ va_K g.1 G_cl (tysOf g) s ∧ RO g s s.heap ∧ (∀ k : Nat, k < KC → s.heap.size ≤ g.2.1 k) ∧ g.2.1 (KC + 7) = b ∧ L ≤ 2560
/-- from pc on, with these locals, this stack and these cells, the law comes to its end -/
def Lv (p : Program) (l : Launch) (e : Env) (s : State) (m : MethodId) (below : List Frame) (meth : Method) (c : Code) (b : Nat) (g : GC) (pc : Nat) (lv : List (Nat × Value)) (st : List Value) (σ : Sg) : Prop :=
  ∀ (H : Heap) (locs : List Loc) (ls : Array Slot), va_P g.1 G_cl (wsOf g σ) H → va_S (AA g) s.heap H locs → lv_has ls 4 (trL g lv) → W p l e room_1 s m #[Value.ref b] below meth c H locs 600000 7302250 (lw_Z below #[Value.ref b] s) (F0 m pc ls (st.map (tr g)))
section LWR
variable {p : Program} {l : Launch} {e : Env} {s : State} {m : MethodId} {below : List Frame} {meth : Method} {c : Code} {b L : Nat} {xs : Nat → Int32} {g : GC} {pc : Nat} {lv lv' : List (Nat × Value)} {st : List Value} {σ : Sg} {i : Nat}
theorem LC.hts (C : LC p s m meth c b L xs g) : ∀ w ∈ TB, w.before #[Value.ref b] s = true := fun w hw => C.1.2.2.2.2.2.1 w (List.mem_filter.mp hw).1
theorem LC.out (C : LC p s m meth c b L xs g) : ¬ AA g b := by
  rintro ⟨k, hk, e⟩
  have h1 := C.2.2.2.2.1 k hk
  have h2 := C.1.2.2.2.2.2.2.2.1
  rw [← e] at h1
  omega
theorem Lw_aload (C : LC p s m meth c b L xs g) {k : Fin 4} {y : Nat} (j : Nat) (hd : decode code pc = .ok (.aload_n k, 1)) (hj : lv[j]? = some ((k : Nat), .ref y)) (kk : Lv p l e s m below meth c b g (pc + 1) lv (.ref y :: st) σ) : Lv p l e s m below meth c b g pc lv st σ :=
  fun H locs ls hP hS hl => lv_aload_n C.1.1 C.1.2.1 hd rfl (lv_at hl j (trL_at hj)) (kk H locs ls hP hS hl)
theorem LVs_0 (C : LC p s m meth c b L xs g) : (trL g (LVs i))[1]? = some (0, .ref b) := by
  show some (0, Value.ref (g.2.1 (KC + 7))) = _
  rw [C.2.2.2.2.2.1]
theorem LVs_3 : (trL g (LVs i))[0]? = some (3, .int (nI i)) := rfl
theorem Lw_arg {k : Nat} (C : LC p s m meth c b L xs g) (hi : i + 5 ≤ L) (hk : k < 5) (d0 : decode code pc = .ok (.aload_n 0, 1)) (d1 : decode code (pc + 1) = .ok (.iload_n 3, 1)) {n : Int} (d2 : decode code (pc + 1 + 1) = .ok (.iconst n, 1)) (hn : Int32.ofInt n = nI k) (d3 : decode code (pc + 1 + 1 + 1) = .ok (.iadd, 1)) (d4 : decode code (pc + 1 + 1 + 1 + 1) = .ok (.iaload, 1)) (kk : Lv p l e s m below meth c b g (pc + 5) (LVs i) (.int (xs (i + k)) :: st) σ) : Lv p l e s m below meth c b g pc (LVs i) st σ := by
  intro H locs ls hP hS hl
  have hL := C.2.2.2.2.2.2
  refine lv_aload_n C.1.1 C.1.2.1 d0 rfl (lv_at hl 1 (LVs_0 C)) ?_
  refine lv_iload_n C.1.1 C.1.2.1 d1 rfl (lv_at hl 0 LVs_3) ?_
  refine lv_iconst C.1.1 C.1.2.1 d2 hn ?_
  refine lv_iadd C.1.1 C.1.2.1 d3 ?_
  rw [nI_add]
  refine va_sld C.1.1 C.1.2.1 C.1.2.2.2.2.2.2.1 C.1.2.2.2.2.2.2.2.1 C.out hS (nvin (by omega) (by omega)) d4 ?_
  rw [cl (by omega)]
  exact kk H locs ls hP hS hl
theorem Lw_i2l (C : LC p s m meth c b L xs g) {y : Int32} (hd : decode code pc = .ok (.i2l, 1)) (kk : Lv p l e s m below meth c b g (pc + 1) lv (.long y.toInt64 :: st) σ) : Lv p l e s m below meth c b g pc lv (.int y :: st) σ :=
  fun H locs ls hP hS hl => lv_i2l C.1.1 C.1.2.1 hd rfl (kk H locs ls hP hS hl)
theorem Lw_bipush (C : LC p s m meth c b L xs g) {n : Int} (v : Int32) (hd : decode code pc = .ok (.bipush n, 2)) (hv : (Int8.ofInt n).toInt32 = v) (kk : Lv p l e s m below meth c b g (pc + 2) lv (.int v :: st) σ) : Lv p l e s m below meth c b g pc lv st σ :=
  fun H locs ls hP hS hl => lv_bipush C.1.1 C.1.2.1 hd hv (kk H locs ls hP hS hl)
theorem Lw_lshl (C : LC p s m meth c b L xs g) {y : Int64} {z : Int32} (hd : decode code pc = .ok (.lshl, 1)) (kk : Lv p l e s m below meth c b g (pc + 1) lv (.long (y <<< (z.toInt64 &&& 63)) :: st) σ) : Lv p l e s m below meth c b g pc lv (.int z :: .long y :: st) σ :=
  fun H locs ls hP hS hl => lv_lshl C.1.1 C.1.2.1 hd rfl (kk H locs ls hP hS hl)
theorem Lw_land (C : LC p s m meth c b L xs g) {y z : Int64} (hd : decode code pc = .ok (.land, 1)) (kk : Lv p l e s m below meth c b g (pc + 1) lv (.long (y &&& z) :: st) σ) : Lv p l e s m below meth c b g pc lv (.long z :: .long y :: st) σ :=
  fun H locs ls hP hS hl => lv_land C.1.1 C.1.2.1 hd (kk H locs ls hP hS hl)
theorem Lw_lor (C : LC p s m meth c b L xs g) {y z : Int64} (hd : decode code pc = .ok (.lor, 1)) (kk : Lv p l e s m below meth c b g (pc + 1) lv (.long (y ||| z) :: st) σ) : Lv p l e s m below meth c b g pc lv (.long z :: .long y :: st) σ :=
  fun H locs ls hP hS hl => lv_lor C.1.1 C.1.2.1 hd (kk H locs ls hP hS hl)
theorem Lw_ldc2 (C : LC p s m meth c b L xs g) {index : Nat} (v : Int64) (hd : decode code pc = .ok (.ldc2_w index, 3)) (hw : Cond.constantLong R_law index v ∈ TB) (kk : Lv p l e s m below meth c b g (pc + 3) lv (.long v :: st) σ) : Lv p l e s m below meth c b g pc lv st σ :=
  fun H locs ls hP hS hl => lv_ldc2 C.1.1 C.1.2.1 C.1.2.2.2.2.1 (C.hts _ hw) hd (kk H locs ls hP hS hl)
theorem Lw_icmpeq (C : LC p s m meth c b L xs g) {y : Int32} {off : Int} (tgt : Nat) (hd : decode code pc = .ok (.if_icmp .eq off, 3)) (ht : (pc : Int) + off = (tgt : Int)) (kt : Lv p l e s m below meth c b g tgt lv st σ) : Lv p l e s m below meth c b g pc lv (.int y :: .int y :: st) σ :=
  fun H locs ls hP hS hl => lv_icmp_eq C.1.1 C.1.2.1 hd ht (fun _ => kt H locs ls hP hS hl) (fun h => absurd rfl h)
theorem Lw_lcmpeq (C : LC p s m meth c b L xs g) {y : Int64} {off : Int} (tgt : Nat) (hd : decode code pc = .ok (.lcmp, 1)) (hd2 : decode code (pc + 1) = .ok (.ifCond .eq off, 3)) (ht : ((pc + 1 : Nat) : Int) + off = (tgt : Int)) (kt : Lv p l e s m below meth c b g tgt lv st σ) : Lv p l e s m below meth c b g pc lv (.long y :: .long y :: st) σ :=
  fun H locs ls hP hS hl => W.lcmp C.1.1 C.1.2.1 hd (lv_if_eq C.1.1 C.1.2.1 hd2 ht (fun _ => kt H locs ls hP hS hl) (fun h => absurd (lg_eq0.mpr rfl) h))
theorem Lw_tableIn (C : LC p s m meth c b L xs g) {dflt lo hi : Int} {offs : Array Int} {len : Nat} {v : Int32} {off : Int} (tgt : Nat) (hd : decode code pc = .ok (.tableswitch dflt lo hi offs, len)) (h1 : ¬ v.toInt < lo) (h2 : ¬ hi < v.toInt) (ho : offs[(v.toInt - lo).toNat]? = some off) (ht : (pc : Int) + off = (tgt : Int)) (kk : Lv p l e s m below meth c b g tgt lv st σ) : Lv p l e s m below meth c b g pc lv (.int v :: st) σ :=
  fun H locs ls hP hS hl => lv_tableIn C.1.1 C.1.2.1 hd h1 h2 ho ht (kk H locs ls hP hS hl)
theorem Lw_tableOut (C : LC p s m meth c b L xs g) {dflt lo hi : Int} {offs : Array Int} {len : Nat} {v : Int32} (tgt : Nat) (hd : decode code pc = .ok (.tableswitch dflt lo hi offs, len)) (h : v.toInt < lo ∨ hi < v.toInt) (ht : (pc : Int) + dflt = (tgt : Int)) (kk : Lv p l e s m below meth c b g tgt lv st σ) : Lv p l e s m below meth c b g pc lv (.int v :: st) σ :=
  fun H locs ls hP hS hl => lv_tableOut C.1.1 C.1.2.1 hd h ht (kk H locs ls hP hS hl)
theorem Lw_call (C : LC p s m meth c b L xs g) {Qc : Option Value → Sg → Prop} {M' : MD} {index ci q : Nat} {T : u_T} {nf : Nat} {ty : Nat → FieldType} {fs : List (Option Nat)} (as : List Value) {st0 : List Value} (hM : MOV M') (G : GF ci M'.1.cls T nf ty) (hy : lay q = .inr (ci, fs)) (hd : decode code pc = .ok (.invokevirtual index, 3)) (hw : Cond.methodLink R_law index M'.1 ∈ TB) (hp : (parseMethodDescriptor M'.1.desc).map (fun d => d.parameters.length) = some as.length)
    (hst : st0 = as.reverse ++ .ref q :: st) (hc : (st.map fun v => v.category).sum ≤ 8) (kk : EvM 40 M' (.ref q :: as) σ Qc) (hqc : ∀ r σ', Qc r σ' → Lv p l e s m below meth c b g (pc + 3) lv (r.toList ++ st) σ') : Lv p l e s m below meth c b g pc lv st0 σ := by
  intro H locs ls hP hS hl
  obtain ⟨⟨h1, h2, h3, h4, h5⟩, hi1, hi2⟩ := hM
  have hts := C.hts
  have hG : GoodIn TB (Cond.code M'.1 M'.2.1 M'.2.2.1 M'.2.2.2 :: TB) := fun w hw => by
    rcases List.mem_cons.mp hw with rfl | hw
    · exact TB_goodIn _ h1
    · exact TB_goodIn _ hw
  have cb : CallB room_1 s #[Value.ref b] R_law index M'.1 M'.2.1 M'.2.2.1 M'.2.2.2 (Cond.code M'.1 M'.2.1 M'.2.2.1 M'.2.2.2 :: TB) (RM 40) 0 0 as.length := callB_of as.length hts hG rfl rfl rfl (hts _ h2) (hts _ hw) ⟨h3.1, h3.2, hp⟩ ⟨Nat.le_of_ble_eq_true rfl, by show 8 + (M'.2.2.1 + 11) + 60 * 40 ≤ 84000; omega⟩
  have hr : va_Run p l e room_1 s m #[Value.ref b] below meth c H locs 600000 7302250 0 0 (F0 m pc ls (st0.map (tr g))) (st.map (tr g)) (QcOf g Qc (((.ref q :: as).map (tr g)).toArray)) (AA g) := by
    refine va_runV (C := M'.1.cls) (As := as.map (tr g)) (rest := st.map (tr g)) ⟨C.1.1, C.1.2.1, C.1.2.2.2.1, C.1.2.2.2.2.1, hts⟩ (kk l g) ⟨cb, hts _ hi1, hts _ hi2⟩ ⟨PcOf.blind, va_recv C.2.2.1 hP G.1 (ent_obj hy), fun U hU hW => ⟨rfl, C.2.1, by rw [hU]; exact hP, va_K.moved hW.alike C.2.2.1, RO.warm hW hS hU C.2.2.2.1⟩⟩ rfl (by simp) hl.1 ?_ ?_ hd ⟨Nat.le_refl _, Nat.le_refl _⟩
    · subst hst
      simp [tr]
    · refine lv_room (pc := pc) (m := m) (ls := ls) (rest := st0.map (tr g)) ?_
      rw [List.map_map, show ((fun v : Value => v.category) ∘ tr g) = (fun v => v.category) from funext fun v => tr_cat g v]
      exact hc
  intro T hT X
  obtain ⟨v, st₀, t, T', L', h0, X', hL, e1, e2, ⟨⟨r, σ', hv, hq, hb⟩, hz, hk⟩, stp⟩ := hr T hT X
  cases hv
  rw [h0] at hz hk
  have hS1 : va_S (AA g) s.heap T'.heap (locs ++ L') := ⟨Nat.le_trans hS.1 (by rw [e1]; exact hz), fun q h1 h2 => by rw [e1, hk q (Nat.lt_of_lt_of_le h1 hS.1) h2]; exact hS.2.1 q h1 h2, fun q hq => by
      rcases List.mem_append.mp hq with h | h
      · exact hS.2.2 q h
      · exact hL q h⟩
  obtain ⟨t2, a1, b1⟩ := hqc r σ' hq T'.heap (locs ++ L') ls (by rw [e1]; exact hb) hS1 hl T' rfl X'
  refine ⟨t2, stp t2 ?_, b1⟩
  have : (r.toList ++ st).map (tr g) = (r.map (tr g)).toList ++ st.map (tr g) := by cases r <;> simp
  rw [this] at a1
  exact a1
theorem Lw_gt {i : Nat} (hL : L ≤ 2560) (h : L < i + 5) (hi : i ≤ L + 5) : Int32.ofNat L - 5 < nI i := by
  apply Int32.lt_iff_toInt_lt.mpr
  rw [i_nI (by omega)]
  by_cases z : 5 ≤ L
  · have : (Int32.ofNat L - 5 : Int32) = nI (L - 5) := pk_sub (b := 5) z
    rw [this, i_nI (by omega)]
    omega
  · rcases (show L = 0 ∨ L = 1 ∨ L = 2 ∨ L = 3 ∨ L = 4 by omega) with r | r | r | r | r <;> subst r
    · rw [show (Int32.ofNat 0 - 5 : Int32).toInt = -5 by decide]; omega
    · rw [show (Int32.ofNat 1 - 5 : Int32).toInt = -4 by decide]; omega
    · rw [show (Int32.ofNat 2 - 5 : Int32).toInt = -3 by decide]; omega
    · rw [show (Int32.ofNat 3 - 5 : Int32).toInt = -2 by decide]; omega
    · rw [show (Int32.ofNat 4 - 5 : Int32).toInt = -1 by decide]; omega
theorem Lw_head (C : LC p s m meth c b L xs g) (kt : Int32.ofNat L - 5 < nI i → Lv p l e s m below meth c b g 1317 (LVs i) [] σ) (kf : ¬ Int32.ofNat L - 5 < nI i → Lv p l e s m below meth c b g 26 (LVs i) [] σ) : Lv p l e s m below meth c b g 18 (LVs i) [] σ := by
  intro H locs ls hP hS hl
  refine lv_iload_n C.1.1 C.1.2.1 dL_18 rfl (lv_at hl 0 LVs_3) ?_
  refine lv_aload_n C.1.1 C.1.2.1 dL_19 rfl (lv_at hl 1 (LVs_0 C)) ?_
  refine va_slen C.1.1 C.1.2.1 C.1.2.2.2.2.2.2.1 C.1.2.2.2.2.2.2.2.1 C.out hS dL_20 ?_
  refine lv_iconst (v := 5) C.1.1 C.1.2.1 dL_21 (by decide) ?_
  refine lv_isub C.1.1 C.1.2.1 dL_22 ?_
  exact lv_icmp_gt (tgt := 1317) C.1.1 C.1.2.1 dL_23 (by decide) (fun h => kt h H locs ls hP hS hl) (fun h => kf h H locs ls hP hS hl)
theorem Lw_cell (C : LC p s m meth c b L xs g) (hi : i + 5 ≤ L) (kk : Lv p l e s m below meth c b g 32 (LVs i) [.int (xs i &&& 63)] σ) : Lv p l e s m below meth c b g 26 (LVs i) [] σ := by
  intro H locs ls hP hS hl
  have hL := C.2.2.2.2.2.2
  refine lv_aload_n C.1.1 C.1.2.1 dL_26 rfl (lv_at hl 1 (LVs_0 C)) ?_
  refine lv_iload_n C.1.1 C.1.2.1 dL_27 rfl (lv_at hl 0 LVs_3) ?_
  refine va_sld C.1.1 C.1.2.1 C.1.2.2.2.2.2.2.1 C.1.2.2.2.2.2.2.2.1 C.out hS (nvin (by omega) (by omega)) dL_28 ?_
  rw [cl (by omega)]
  refine lv_bipush (v := 63) C.1.1 C.1.2.1 dL_29 (by decide) ?_
  refine lv_iand C.1.1 C.1.2.1 dL_31 ?_
  exact kk H locs ls hP hS hl
theorem Lw_next (C : LC p s m meth c b L xs g) (hi : i + 5 < 2147483648) (kk : Lv p l e s m below meth c b g 18 (LVs (i + 5)) [] σ) : Lv p l e s m below meth c b g 1311 (LVs i) [] σ := by
  intro H locs ls hP hS hl
  refine lv_iinc (v := nI (i + 5)) (lv' := trL g (LVs (i + 5))) C.1.1 C.1.2.1 dL_1311 hl (k := 0) rfl (nI_add i 5) (by decide) rfl (fun ls hl => ?_)
  exact lv_goto (tgt := 18) C.1.1 C.1.2.1 dL_1314 (by decide) (kk H locs ls hP hS hl)
theorem Lw_end (C : LC p s m meth c b L xs g) (d1 : decode code pc = .ok (.iconst 1, 1)) (d2 : decode code (pc + 1) = .ok (.ireturn, 1)) : Lv p l e s m below meth c b g pc lv [] σ := by
  intro H locs ls hP hS hl
  refine lv_iconst (v := 1) C.1.1 C.1.2.1 d1 (by decide) ?_
  refine va_forget (fun q hq => ?_) (lw_ret C.1.1 C.1.2.1 C.1.2.2.1 C.1.2.2.2.2.2.2.2.2.1 d2)
  obtain ⟨k, hk, ek⟩ := hS.2.2 q hq
  rw [ek]
  exact C.2.2.2.2.1 k hk
end LWR
set_option maxRecDepth 100000 in
theorem wL_439 : Cond.methodLink R_law 13 yX9_form ∈ TB := lw_in (i := 439) (by decide +kernel) rfl
set_option maxRecDepth 100000 in
theorem wL_466 : Cond.methodLink R_law 18 yX9_likeness ∈ TB := lw_in (i := 466) (by decide +kernel) rfl
set_option maxRecDepth 100000 in
theorem wL_474 : Cond.methodLink R_law 22 yX9_sign ∈ TB := lw_in (i := 474) (by decide +kernel) rfl
set_option maxRecDepth 100000 in
theorem wL_482 : Cond.methodLink R_law 26 yX9_signs ∈ TB := lw_in (i := 482) (by decide +kernel) rfl
set_option maxRecDepth 100000 in
theorem wL_507 : Cond.methodLink R_law 30 yX9_text ∈ TB := lw_in (i := 507) (by decide +kernel) rfl
set_option maxRecDepth 100000 in
theorem wL_560 : Cond.methodLink R_law 35 yX9_drop ∈ TB := lw_in (i := 560) (by decide +kernel) rfl
set_option maxRecDepth 100000 in
theorem wL_568 : Cond.methodLink R_law 40 yX9_textOf ∈ TB := lw_in (i := 568) (by decide +kernel) rfl
set_option maxRecDepth 100000 in
theorem wL_605 : Cond.methodLink R_law 45 yX9_counted ∈ TB := lw_in (i := 605) (by decide +kernel) rfl
set_option maxRecDepth 100000 in
theorem wL_618 : Cond.methodLink R_law 49 yX9_beside ∈ TB := lw_in (i := 618) (by decide +kernel) rfl
set_option maxRecDepth 100000 in
theorem wL_626 : Cond.methodLink R_law 53 yX9_chance ∈ TB := lw_in (i := 626) (by decide +kernel) rfl
set_option maxRecDepth 100000 in
theorem wL_652 : Cond.methodLink R_law 58 yX9_runs ∈ TB := lw_in (i := 652) (by decide +kernel) rfl
set_option maxRecDepth 100000 in
theorem wL_675 : Cond.methodLink R_law 62 yX9_akin ∈ TB := lw_in (i := 675) (by decide +kernel) rfl
set_option maxRecDepth 100000 in
theorem wL_706 : Cond.methodLink R_law 66 yX9_apart ∈ TB := lw_in (i := 706) (by decide +kernel) rfl
set_option maxRecDepth 100000 in
theorem wL_715 : Cond.methodLink R_law 71 yX9_grid ∈ TB := lw_in (i := 715) (by decide +kernel) rfl
set_option maxRecDepth 100000 in
theorem wL_757 : Cond.methodLink R_law 75 yX9_account ∈ TB := lw_in (i := 757) (by decide +kernel) rfl
set_option maxRecDepth 100000 in
theorem wL_771 : Cond.methodLink R_law 79 yX9_values ∈ TB := lw_in (i := 771) (by decide +kernel) rfl
set_option maxRecDepth 100000 in
theorem wL_801 : Cond.methodLink R_law 83 yX9_sure ∈ TB := lw_in (i := 801) (by decide +kernel) rfl
set_option maxRecDepth 100000 in
theorem wL_809 : Cond.methodLink R_law 87 yX9_name ∈ TB := lw_in (i := 809) (by decide +kernel) rfl
set_option maxRecDepth 100000 in
theorem wL_820 : Cond.methodLink R_law 91 yX9_dragged ∈ TB := lw_in (i := 820) (by decide +kernel) rfl
set_option maxRecDepth 100000 in
theorem wL_843 : Cond.methodLink R_law 95 yX9_together ∈ TB := lw_in (i := 843) (by decide +kernel) rfl
set_option maxRecDepth 100000 in
theorem wL_851 : Cond.methodLink R_law 99 yX9_word ∈ TB := lw_in (i := 851) (by decide +kernel) rfl
set_option maxRecDepth 100000 in
theorem wL_867 : Cond.methodLink R_law 103 yX9_tabled ∈ TB := lw_in (i := 867) (by decide +kernel) rfl
set_option maxRecDepth 100000 in
theorem wL_884 : Cond.methodLink R_law 107 yX9_read ∈ TB := lw_in (i := 884) (by decide +kernel) rfl
set_option maxRecDepth 100000 in
theorem wL_927 : Cond.methodLink R_law 111 yX9_best ∈ TB := lw_in (i := 927) (by decide +kernel) rfl
set_option maxRecDepth 100000 in
theorem wL_947 : Cond.methodLink R_law 115 yX9_judge ∈ TB := lw_in (i := 947) (by decide +kernel) rfl
set_option maxRecDepth 100000 in
theorem wL_967 : Cond.methodLink R_law 121 yX9_feed ∈ TB := lw_in (i := 967) (by decide +kernel) rfl
set_option maxRecDepth 100000 in
theorem wL_975 : Cond.methodLink R_law 126 yX9_end ∈ TB := lw_in (i := 975) (by decide +kernel) rfl
set_option maxRecDepth 100000 in
theorem wL_983 : Cond.methodLink R_law 130 yX9_claims ∈ TB := lw_in (i := 983) (by decide +kernel) rfl
set_option maxRecDepth 100000 in
theorem wL_1108 : Cond.methodLink R_law 134 yX9_fault ∈ TB := lw_in (i := 1108) (by decide +kernel) rfl
set_option maxRecDepth 100000 in
theorem wL_1116 : Cond.methodLink R_law 138 yX9_claim ∈ TB := lw_in (i := 1116) (by decide +kernel) rfl
set_option maxRecDepth 100000 in
theorem wL_1133 : Cond.methodLink R_law 142 yX9_withdraw ∈ TB := lw_in (i := 1133) (by decide +kernel) rfl
set_option maxRecDepth 100000 in
theorem wL_1141 : Cond.methodLink R_law 146 yX9_day ∈ TB := lw_in (i := 1141) (by decide +kernel) rfl
set_option maxRecDepth 100000 in
theorem wL_1149 : Cond.methodLink R_law 150 yX9_known ∈ TB := lw_in (i := 1149) (by decide +kernel) rfl
set_option maxRecDepth 100000 in
theorem wL_1161 : Cond.methodLink R_law 154 yX9_sheet ∈ TB := lw_in (i := 1161) (by decide +kernel) rfl
set_option maxRecDepth 100000 in
theorem wL_1170 : Cond.methodLink R_law 158 yX9_lay ∈ TB := lw_in (i := 1170) (by decide +kernel) rfl
set_option maxRecDepth 100000 in
theorem wL_1181 : Cond.methodLink R_law 162 yX9_count ∈ TB := lw_in (i := 1181) (by decide +kernel) rfl
set_option maxRecDepth 100000 in
theorem wL_1416 : Cond.methodLink R_law 17 yX10_form ∈ TB := lw_in (i := 1416) (by decide +kernel) rfl
set_option maxRecDepth 100000 in
theorem wL_1424 : Cond.methodLink R_law 21 yX10_likeness ∈ TB := lw_in (i := 1424) (by decide +kernel) rfl
set_option maxRecDepth 100000 in
theorem wL_1429 : Cond.methodLink R_law 25 yX10_sign ∈ TB := lw_in (i := 1429) (by decide +kernel) rfl
set_option maxRecDepth 100000 in
theorem wL_1444 : Cond.methodLink R_law 29 yX10_signs ∈ TB := lw_in (i := 1444) (by decide +kernel) rfl
set_option maxRecDepth 100000 in
theorem wL_1453 : Cond.methodLink R_law 39 yX10_drop ∈ TB := lw_in (i := 1453) (by decide +kernel) rfl
set_option maxRecDepth 100000 in
theorem wL_1457 : Cond.methodLink R_law 44 yX10_textOf ∈ TB := lw_in (i := 1457) (by decide +kernel) rfl
set_option maxRecDepth 100000 in
theorem wL_1475 : Cond.methodLink R_law 48 yX10_counted ∈ TB := lw_in (i := 1475) (by decide +kernel) rfl
set_option maxRecDepth 100000 in
theorem wL_1487 : Cond.methodLink R_law 52 yX10_beside ∈ TB := lw_in (i := 1487) (by decide +kernel) rfl
set_option maxRecDepth 100000 in
theorem wL_1495 : Cond.methodLink R_law 57 yX10_chance ∈ TB := lw_in (i := 1495) (by decide +kernel) rfl
set_option maxRecDepth 100000 in
theorem wL_1505 : Cond.methodLink R_law 61 yX10_runs ∈ TB := lw_in (i := 1505) (by decide +kernel) rfl
set_option maxRecDepth 100000 in
theorem wL_1517 : Cond.methodLink R_law 65 yX10_akin ∈ TB := lw_in (i := 1517) (by decide +kernel) rfl
set_option maxRecDepth 100000 in
theorem wL_1533 : Cond.methodLink R_law 70 yX10_apart ∈ TB := lw_in (i := 1533) (by decide +kernel) rfl
set_option maxRecDepth 100000 in
theorem wL_1538 : Cond.methodLink R_law 74 yX10_grid ∈ TB := lw_in (i := 1538) (by decide +kernel) rfl
set_option maxRecDepth 100000 in
theorem wL_1559 : Cond.methodLink R_law 78 yX10_account ∈ TB := lw_in (i := 1559) (by decide +kernel) rfl
set_option maxRecDepth 100000 in
theorem wL_1567 : Cond.methodLink R_law 82 yX10_values ∈ TB := lw_in (i := 1567) (by decide +kernel) rfl
set_option maxRecDepth 100000 in
theorem wL_1583 : Cond.methodLink R_law 86 yX10_sure ∈ TB := lw_in (i := 1583) (by decide +kernel) rfl
set_option maxRecDepth 100000 in
theorem wL_1587 : Cond.methodLink R_law 90 yX10_name ∈ TB := lw_in (i := 1587) (by decide +kernel) rfl
set_option maxRecDepth 100000 in
theorem wL_1592 : Cond.methodLink R_law 94 yX10_dragged ∈ TB := lw_in (i := 1592) (by decide +kernel) rfl
set_option maxRecDepth 100000 in
theorem wL_1612 : Cond.methodLink R_law 98 yX10_together ∈ TB := lw_in (i := 1612) (by decide +kernel) rfl
set_option maxRecDepth 100000 in
theorem wL_1616 : Cond.methodLink R_law 102 yX10_word ∈ TB := lw_in (i := 1616) (by decide +kernel) rfl
set_option maxRecDepth 100000 in
theorem wL_1621 : Cond.methodLink R_law 106 yX10_tabled ∈ TB := lw_in (i := 1621) (by decide +kernel) rfl
set_option maxRecDepth 100000 in
theorem wL_1629 : Cond.methodLink R_law 110 yX10_read ∈ TB := lw_in (i := 1629) (by decide +kernel) rfl
set_option maxRecDepth 100000 in
theorem wL_1649 : Cond.methodLink R_law 114 yX10_best ∈ TB := lw_in (i := 1649) (by decide +kernel) rfl
set_option maxRecDepth 100000 in
theorem wL_1661 : Cond.methodLink R_law 118 yX10_judge ∈ TB := lw_in (i := 1661) (by decide +kernel) rfl
set_option maxRecDepth 100000 in
theorem wL_1669 : Cond.methodLink R_law 125 yX10_feed ∈ TB := lw_in (i := 1669) (by decide +kernel) rfl
set_option maxRecDepth 100000 in
theorem wL_1674 : Cond.methodLink R_law 129 yX10_end ∈ TB := lw_in (i := 1674) (by decide +kernel) rfl
set_option maxRecDepth 100000 in
theorem wL_1678 : Cond.methodLink R_law 133 yX10_claims ∈ TB := lw_in (i := 1678) (by decide +kernel) rfl
set_option maxRecDepth 100000 in
theorem wL_1714 : Cond.methodLink R_law 137 yX10_fault ∈ TB := lw_in (i := 1714) (by decide +kernel) rfl
set_option maxRecDepth 100000 in
theorem wL_1718 : Cond.methodLink R_law 141 yX10_claim ∈ TB := lw_in (i := 1718) (by decide +kernel) rfl
set_option maxRecDepth 100000 in
theorem wL_1734 : Cond.methodLink R_law 145 yX10_withdraw ∈ TB := lw_in (i := 1734) (by decide +kernel) rfl
set_option maxRecDepth 100000 in
theorem wL_1738 : Cond.methodLink R_law 149 yX10_day ∈ TB := lw_in (i := 1738) (by decide +kernel) rfl
set_option maxRecDepth 100000 in
theorem wL_1743 : Cond.methodLink R_law 153 yX10_known ∈ TB := lw_in (i := 1743) (by decide +kernel) rfl
set_option maxRecDepth 100000 in
theorem wL_1747 : Cond.methodLink R_law 157 yX10_sheet ∈ TB := lw_in (i := 1747) (by decide +kernel) rfl
set_option maxRecDepth 100000 in
theorem wL_1754 : Cond.methodLink R_law 161 yX10_lay ∈ TB := lw_in (i := 1754) (by decide +kernel) rfl
set_option maxRecDepth 100000 in
theorem wL_1758 : Cond.methodLink R_law 34 yX10_text ∈ TB := lw_in (i := 1758) (by decide +kernel) rfl
set_option maxRecDepth 100000 in
theorem wL_1764 : Cond.methodLink R_law 165 yX10_count ∈ TB := lw_in (i := 1764) (by decide +kernel) rfl
set_option maxRecDepth 100000 in
theorem wL_1768 : Cond.constantLong R_law 119 (4294967295) ∈ TB := lw_in (i := 1768) (by decide +kernel) rfl
section LAWC
variable {p : Program} {l : Launch} {e : Env} {s : State} {m : MethodId} {below : List Frame} {meth : Method} {c : Code} {b L : Nat} {xs : Nat → Int32} {g : GC}
theorem law_c0 (C : LC p s m meth c b L xs g) {i : Nat} (hi : i + 5 ≤ L) {σ : Sg} (hR : Rel σ) (kk : ∀ σ', Rel σ' → Lv p l e s m below meth c b g 1311 (LVs i) [] σ') : Lv p l e s m below meth c b g 192 (LVs i) [] σ := by
  refine Lw_aload C 2 dL_192 rfl ?_
  refine Lw_arg (k := 1) C hi (by decide) dL_193 dL_194 dL_195 (by decide) dL_196 dL_197 ?_
  refine Lw_call (q := 0) C [.int (xs (i + 1))] vX9_form G9 lay_0 dL_198 wL_439 rfl rfl (Nat.le_of_ble_eq_true rfl) (O_form hR (xs (i + 1))) ?_
  rintro r σ1 ⟨v, rfl, h2⟩
  refine Lw_aload C 3 dL_201 rfl ?_
  refine Lw_arg (k := 1) C hi (by decide) dL_202 dL_203 dL_204 (by decide) dL_205 dL_206 ?_
  refine Lw_call (q := 245) C [.int (xs (i + 1))] vX10_form G10 lay_245 dL_207 wL_1416 rfl rfl (Nat.le_of_ble_eq_true rfl) h2 ?_
  rintro r σ2 ⟨rfl, hR2⟩
  exact Lw_icmpeq C 1311 dL_210 (by decide) (kk σ2 hR2)
theorem law_c1 (C : LC p s m meth c b L xs g) {i : Nat} (hi : i + 5 ≤ L) {σ : Sg} (hR : Rel σ) (kk : ∀ σ', Rel σ' → Lv p l e s m below meth c b g 1311 (LVs i) [] σ') : Lv p l e s m below meth c b g 215 (LVs i) [] σ := by
  refine Lw_aload C 2 dL_215 rfl ?_
  refine Lw_arg (k := 1) C hi (by decide) dL_216 dL_217 dL_218 (by decide) dL_219 dL_220 ?_
  refine Lw_call (q := 0) C [.int (xs (i + 1))] vX9_likeness G9 lay_0 dL_221 wL_466 rfl rfl (Nat.le_of_ble_eq_true rfl) (O_likeness hR (xs (i + 1))) ?_
  rintro r σ1 ⟨v, rfl, h2⟩
  refine Lw_aload C 3 dL_224 rfl ?_
  refine Lw_arg (k := 1) C hi (by decide) dL_225 dL_226 dL_227 (by decide) dL_228 dL_229 ?_
  refine Lw_call (q := 245) C [.int (xs (i + 1))] vX10_likeness G10 lay_245 dL_230 wL_1424 rfl rfl (Nat.le_of_ble_eq_true rfl) h2 ?_
  rintro r σ2 ⟨rfl, hR2⟩
  exact Lw_icmpeq C 1311 dL_233 (by decide) (kk σ2 hR2)
theorem law_c2 (C : LC p s m meth c b L xs g) {i : Nat} (hi : i + 5 ≤ L) {σ : Sg} (hR : Rel σ) (kk : ∀ σ', Rel σ' → Lv p l e s m below meth c b g 1311 (LVs i) [] σ') : Lv p l e s m below meth c b g 238 (LVs i) [] σ := by
  refine Lw_aload C 2 dL_238 rfl ?_
  refine Lw_arg (k := 1) C hi (by decide) dL_239 dL_240 dL_241 (by decide) dL_242 dL_243 ?_
  refine Lw_call (q := 0) C [.int (xs (i + 1))] vX9_sign G9 lay_0 dL_244 wL_474 rfl rfl (Nat.le_of_ble_eq_true rfl) (O_sign hR (xs (i + 1))) ?_
  rintro r σ1 ⟨v, rfl, h2⟩
  refine Lw_aload C 3 dL_247 rfl ?_
  refine Lw_arg (k := 1) C hi (by decide) dL_248 dL_249 dL_250 (by decide) dL_251 dL_252 ?_
  refine Lw_call (q := 245) C [.int (xs (i + 1))] vX10_sign G10 lay_245 dL_253 wL_1429 rfl rfl (Nat.le_of_ble_eq_true rfl) h2 ?_
  rintro r σ2 ⟨rfl, hR2⟩
  exact Lw_icmpeq C 1311 dL_256 (by decide) (kk σ2 hR2)
theorem law_c3 (C : LC p s m meth c b L xs g) {i : Nat} (hi : i + 5 ≤ L) {σ : Sg} (hR : Rel σ) (kk : ∀ σ', Rel σ' → Lv p l e s m below meth c b g 1311 (LVs i) [] σ') : Lv p l e s m below meth c b g 261 (LVs i) [] σ := by
  refine Lw_aload C 2 dL_261 rfl ?_
  refine Lw_arg (k := 1) C hi (by decide) dL_262 dL_263 dL_264 (by decide) dL_265 dL_266 ?_
  refine Lw_call (q := 0) C [.int (xs (i + 1))] vX9_signs G9 lay_0 dL_267 wL_482 rfl rfl (Nat.le_of_ble_eq_true rfl) (O_signs hR (xs (i + 1))) ?_
  rintro r σ1 ⟨v, rfl, h2⟩
  refine Lw_aload C 3 dL_270 rfl ?_
  refine Lw_arg (k := 1) C hi (by decide) dL_271 dL_272 dL_273 (by decide) dL_274 dL_275 ?_
  refine Lw_call (q := 245) C [.int (xs (i + 1))] vX10_signs G10 lay_245 dL_276 wL_1444 rfl rfl (Nat.le_of_ble_eq_true rfl) h2 ?_
  rintro r σ2 ⟨rfl, hR2⟩
  exact Lw_icmpeq C 1311 dL_279 (by decide) (kk σ2 hR2)
theorem law_c4 (C : LC p s m meth c b L xs g) {i : Nat} (hi : i + 5 ≤ L) {σ : Sg} (hR : Rel σ) (kk : ∀ σ', Rel σ' → Lv p l e s m below meth c b g 1311 (LVs i) [] σ') : Lv p l e s m below meth c b g 284 (LVs i) [] σ := by
  refine Lw_aload C 2 dL_284 rfl ?_
  refine Lw_arg (k := 1) C hi (by decide) dL_285 dL_286 dL_287 (by decide) dL_288 dL_289 ?_
  refine Lw_arg (k := 2) C hi (by decide) dL_290 dL_291 dL_292 (by decide) dL_293 dL_294 ?_
  refine Lw_arg (k := 3) C hi (by decide) dL_295 dL_296 dL_297 (by decide) dL_298 dL_299 ?_
  refine Lw_arg (k := 4) C hi (by decide) dL_300 dL_301 dL_302 (by decide) dL_303 dL_304 ?_
  refine Lw_call (q := 0) C [.int (xs (i + 1)), .int (xs (i + 2)), .int (xs (i + 3)), .int (xs (i + 4))] vX9_text G9 lay_0 dL_305 wL_507 rfl rfl (Nat.le_of_ble_eq_true rfl) (O_text hR (xs (i + 1)) (xs (i + 2)) (xs (i + 3)) (xs (i + 4))) ?_
  rintro r σ1 ⟨v, rfl, h2⟩
  refine Lw_aload C 3 dL_308 rfl ?_
  refine Lw_arg (k := 1) C hi (by decide) dL_309 dL_310 dL_311 (by decide) dL_312 dL_313 ?_
  refine Lw_arg (k := 2) C hi (by decide) dL_314 dL_315 dL_316 (by decide) dL_317 dL_318 ?_
  refine Lw_arg (k := 3) C hi (by decide) dL_319 dL_320 dL_321 (by decide) dL_322 dL_323 ?_
  refine Lw_arg (k := 4) C hi (by decide) dL_324 dL_325 dL_326 (by decide) dL_327 dL_328 ?_
  refine Lw_call (q := 245) C [.int (xs (i + 1)), .int (xs (i + 2)), .int (xs (i + 3)), .int (xs (i + 4))] vX10_text G10 lay_245 dL_329 wL_1758 rfl rfl (Nat.le_of_ble_eq_true rfl) h2 ?_
  rintro r σ2 ⟨rfl, hR2⟩
  exact Lw_icmpeq C 1311 dL_332 (by decide) (kk σ2 hR2)
theorem law_c5 (C : LC p s m meth c b L xs g) {i : Nat} (hi : i + 5 ≤ L) {σ : Sg} (hR : Rel σ) (kk : ∀ σ', Rel σ' → Lv p l e s m below meth c b g 1311 (LVs i) [] σ') : Lv p l e s m below meth c b g 337 (LVs i) [] σ := by
  refine Lw_aload C 2 dL_337 rfl ?_
  refine Lw_call (q := 0) C [] vX9_drop G9 lay_0 dL_338 wL_560 rfl rfl (Nat.le_of_ble_eq_true rfl) (O_drop hR) ?_
  rintro r σ1 ⟨v, rfl, h2⟩
  refine Lw_aload C 3 dL_341 rfl ?_
  refine Lw_call (q := 245) C [] vX10_drop G10 lay_245 dL_342 wL_1453 rfl rfl (Nat.le_of_ble_eq_true rfl) h2 ?_
  rintro r σ2 ⟨rfl, hR2⟩
  exact Lw_icmpeq C 1311 dL_345 (by decide) (kk σ2 hR2)
theorem law_c6 (C : LC p s m meth c b L xs g) {i : Nat} (hi : i + 5 ≤ L) {σ : Sg} (hR : Rel σ) (kk : ∀ σ', Rel σ' → Lv p l e s m below meth c b g 1311 (LVs i) [] σ') : Lv p l e s m below meth c b g 350 (LVs i) [] σ := by
  refine Lw_aload C 2 dL_350 rfl ?_
  refine Lw_arg (k := 1) C hi (by decide) dL_351 dL_352 dL_353 (by decide) dL_354 dL_355 ?_
  refine Lw_arg (k := 2) C hi (by decide) dL_356 dL_357 dL_358 (by decide) dL_359 dL_360 ?_
  refine Lw_call (q := 0) C [.int (xs (i + 1)), .int (xs (i + 2))] vX9_textOf G9 lay_0 dL_361 wL_568 rfl rfl (Nat.le_of_ble_eq_true rfl) (O_textOf hR (xs (i + 1)) (xs (i + 2))) ?_
  rintro r σ1 ⟨v, rfl, h2⟩
  refine Lw_aload C 3 dL_364 rfl ?_
  refine Lw_arg (k := 1) C hi (by decide) dL_365 dL_366 dL_367 (by decide) dL_368 dL_369 ?_
  refine Lw_arg (k := 2) C hi (by decide) dL_370 dL_371 dL_372 (by decide) dL_373 dL_374 ?_
  refine Lw_call (q := 245) C [.int (xs (i + 1)), .int (xs (i + 2))] vX10_textOf G10 lay_245 dL_375 wL_1457 rfl rfl (Nat.le_of_ble_eq_true rfl) h2 ?_
  rintro r σ2 ⟨rfl, hR2⟩
  exact Lw_icmpeq C 1311 dL_378 (by decide) (kk σ2 hR2)
theorem law_c7 (C : LC p s m meth c b L xs g) {i : Nat} (hi : i + 5 ≤ L) {σ : Sg} (hR : Rel σ) (kk : ∀ σ', Rel σ' → Lv p l e s m below meth c b g 1311 (LVs i) [] σ') : Lv p l e s m below meth c b g 383 (LVs i) [] σ := by
  refine Lw_aload C 2 dL_383 rfl ?_
  refine Lw_arg (k := 1) C hi (by decide) dL_384 dL_385 dL_386 (by decide) dL_387 dL_388 ?_
  refine Lw_call (q := 0) C [.int (xs (i + 1))] vX9_counted G9 lay_0 dL_389 wL_605 rfl rfl (Nat.le_of_ble_eq_true rfl) (O_counted hR (xs (i + 1))) ?_
  rintro r σ1 ⟨v, rfl, h2⟩
  refine Lw_aload C 3 dL_392 rfl ?_
  refine Lw_arg (k := 1) C hi (by decide) dL_393 dL_394 dL_395 (by decide) dL_396 dL_397 ?_
  refine Lw_call (q := 245) C [.int (xs (i + 1))] vX10_counted G10 lay_245 dL_398 wL_1475 rfl rfl (Nat.le_of_ble_eq_true rfl) h2 ?_
  rintro r σ2 ⟨rfl, hR2⟩
  exact Lw_icmpeq C 1311 dL_401 (by decide) (kk σ2 hR2)
theorem law_c8 (C : LC p s m meth c b L xs g) {i : Nat} (hi : i + 5 ≤ L) {σ : Sg} (hR : Rel σ) (kk : ∀ σ', Rel σ' → Lv p l e s m below meth c b g 1311 (LVs i) [] σ') : Lv p l e s m below meth c b g 406 (LVs i) [] σ := by
  refine Lw_aload C 2 dL_406 rfl ?_
  refine Lw_arg (k := 1) C hi (by decide) dL_407 dL_408 dL_409 (by decide) dL_410 dL_411 ?_
  refine Lw_arg (k := 2) C hi (by decide) dL_412 dL_413 dL_414 (by decide) dL_415 dL_416 ?_
  refine Lw_call (q := 0) C [.int (xs (i + 1)), .int (xs (i + 2))] vX9_beside G9 lay_0 dL_417 wL_618 rfl rfl (Nat.le_of_ble_eq_true rfl) (O_beside hR (xs (i + 1)) (xs (i + 2))) ?_
  rintro r σ1 ⟨v, rfl, h2⟩
  refine Lw_aload C 3 dL_420 rfl ?_
  refine Lw_arg (k := 1) C hi (by decide) dL_421 dL_422 dL_423 (by decide) dL_424 dL_425 ?_
  refine Lw_arg (k := 2) C hi (by decide) dL_426 dL_427 dL_428 (by decide) dL_429 dL_430 ?_
  refine Lw_call (q := 245) C [.int (xs (i + 1)), .int (xs (i + 2))] vX10_beside G10 lay_245 dL_431 wL_1487 rfl rfl (Nat.le_of_ble_eq_true rfl) h2 ?_
  rintro r σ2 ⟨rfl, hR2⟩
  exact Lw_icmpeq C 1311 dL_434 (by decide) (kk σ2 hR2)
theorem law_c9 (C : LC p s m meth c b L xs g) {i : Nat} (hi : i + 5 ≤ L) {σ : Sg} (hR : Rel σ) (kk : ∀ σ', Rel σ' → Lv p l e s m below meth c b g 1311 (LVs i) [] σ') : Lv p l e s m below meth c b g 439 (LVs i) [] σ := by
  refine Lw_aload C 2 dL_439 rfl ?_
  refine Lw_arg (k := 1) C hi (by decide) dL_440 dL_441 dL_442 (by decide) dL_443 dL_444 ?_
  refine Lw_arg (k := 2) C hi (by decide) dL_445 dL_446 dL_447 (by decide) dL_448 dL_449 ?_
  refine Lw_arg (k := 3) C hi (by decide) dL_450 dL_451 dL_452 (by decide) dL_453 dL_454 ?_
  refine Lw_call (q := 0) C [.int (xs (i + 1)), .int (xs (i + 2)), .int (xs (i + 3))] vX9_chance G9 lay_0 dL_455 wL_626 rfl rfl (Nat.le_of_ble_eq_true rfl) (O_chance hR (xs (i + 1)) (xs (i + 2)) (xs (i + 3))) ?_
  rintro r σ1 ⟨v, rfl, h2⟩
  refine Lw_aload C 3 dL_458 rfl ?_
  refine Lw_arg (k := 1) C hi (by decide) dL_459 dL_460 dL_461 (by decide) dL_462 dL_463 ?_
  refine Lw_arg (k := 2) C hi (by decide) dL_464 dL_465 dL_466 (by decide) dL_467 dL_468 ?_
  refine Lw_arg (k := 3) C hi (by decide) dL_469 dL_470 dL_471 (by decide) dL_472 dL_473 ?_
  refine Lw_call (q := 245) C [.int (xs (i + 1)), .int (xs (i + 2)), .int (xs (i + 3))] vX10_chance G10 lay_245 dL_474 wL_1495 rfl rfl (Nat.le_of_ble_eq_true rfl) h2 ?_
  rintro r σ2 ⟨rfl, hR2⟩
  exact Lw_lcmpeq C 1311 dL_477 dL_478 (by decide) (kk σ2 hR2)
theorem law_c10 (C : LC p s m meth c b L xs g) {i : Nat} (hi : i + 5 ≤ L) {σ : Sg} (hR : Rel σ) (kk : ∀ σ', Rel σ' → Lv p l e s m below meth c b g 1311 (LVs i) [] σ') : Lv p l e s m below meth c b g 483 (LVs i) [] σ := by
  refine Lw_aload C 2 dL_483 rfl ?_
  refine Lw_arg (k := 1) C hi (by decide) dL_484 dL_485 dL_486 (by decide) dL_487 dL_488 ?_
  refine Lw_call (q := 0) C [.int (xs (i + 1))] vX9_runs G9 lay_0 dL_489 wL_652 rfl rfl (Nat.le_of_ble_eq_true rfl) (O_runs hR (xs (i + 1))) ?_
  rintro r σ1 ⟨v, rfl, h2⟩
  refine Lw_aload C 3 dL_492 rfl ?_
  refine Lw_arg (k := 1) C hi (by decide) dL_493 dL_494 dL_495 (by decide) dL_496 dL_497 ?_
  refine Lw_call (q := 245) C [.int (xs (i + 1))] vX10_runs G10 lay_245 dL_498 wL_1505 rfl rfl (Nat.le_of_ble_eq_true rfl) h2 ?_
  rintro r σ2 ⟨rfl, hR2⟩
  exact Lw_icmpeq C 1311 dL_501 (by decide) (kk σ2 hR2)
theorem law_c11 (C : LC p s m meth c b L xs g) {i : Nat} (hi : i + 5 ≤ L) {σ : Sg} (hR : Rel σ) (kk : ∀ σ', Rel σ' → Lv p l e s m below meth c b g 1311 (LVs i) [] σ') : Lv p l e s m below meth c b g 506 (LVs i) [] σ := by
  refine Lw_aload C 2 dL_506 rfl ?_
  refine Lw_arg (k := 1) C hi (by decide) dL_507 dL_508 dL_509 (by decide) dL_510 dL_511 ?_
  refine Lw_arg (k := 2) C hi (by decide) dL_512 dL_513 dL_514 (by decide) dL_515 dL_516 ?_
  refine Lw_call (q := 0) C [.int (xs (i + 1)), .int (xs (i + 2))] vX9_akin G9 lay_0 dL_517 wL_675 rfl rfl (Nat.le_of_ble_eq_true rfl) (O_akin hR (xs (i + 1)) (xs (i + 2))) ?_
  rintro r σ1 ⟨v, rfl, h2⟩
  refine Lw_aload C 3 dL_520 rfl ?_
  refine Lw_arg (k := 1) C hi (by decide) dL_521 dL_522 dL_523 (by decide) dL_524 dL_525 ?_
  refine Lw_arg (k := 2) C hi (by decide) dL_526 dL_527 dL_528 (by decide) dL_529 dL_530 ?_
  refine Lw_call (q := 245) C [.int (xs (i + 1)), .int (xs (i + 2))] vX10_akin G10 lay_245 dL_531 wL_1517 rfl rfl (Nat.le_of_ble_eq_true rfl) h2 ?_
  rintro r σ2 ⟨rfl, hR2⟩
  exact Lw_icmpeq C 1311 dL_534 (by decide) (kk σ2 hR2)
theorem law_c12 (C : LC p s m meth c b L xs g) {i : Nat} (hi : i + 5 ≤ L) {σ : Sg} (hR : Rel σ) (kk : ∀ σ', Rel σ' → Lv p l e s m below meth c b g 1311 (LVs i) [] σ') : Lv p l e s m below meth c b g 539 (LVs i) [] σ := by
  refine Lw_aload C 2 dL_539 rfl ?_
  refine Lw_arg (k := 1) C hi (by decide) dL_540 dL_541 dL_542 (by decide) dL_543 dL_544 ?_
  refine Lw_arg (k := 2) C hi (by decide) dL_545 dL_546 dL_547 (by decide) dL_548 dL_549 ?_
  refine Lw_arg (k := 3) C hi (by decide) dL_550 dL_551 dL_552 (by decide) dL_553 dL_554 ?_
  refine Lw_call (q := 0) C [.int (xs (i + 1)), .int (xs (i + 2)), .int (xs (i + 3))] vX9_apart G9 lay_0 dL_555 wL_706 rfl rfl (Nat.le_of_ble_eq_true rfl) (O_apart hR (xs (i + 1)) (xs (i + 2)) (xs (i + 3))) ?_
  rintro r σ1 ⟨v, rfl, h2⟩
  refine Lw_aload C 3 dL_558 rfl ?_
  refine Lw_arg (k := 1) C hi (by decide) dL_559 dL_560 dL_561 (by decide) dL_562 dL_563 ?_
  refine Lw_arg (k := 2) C hi (by decide) dL_564 dL_565 dL_566 (by decide) dL_567 dL_568 ?_
  refine Lw_arg (k := 3) C hi (by decide) dL_569 dL_570 dL_571 (by decide) dL_572 dL_573 ?_
  refine Lw_call (q := 245) C [.int (xs (i + 1)), .int (xs (i + 2)), .int (xs (i + 3))] vX10_apart G10 lay_245 dL_574 wL_1533 rfl rfl (Nat.le_of_ble_eq_true rfl) h2 ?_
  rintro r σ2 ⟨rfl, hR2⟩
  exact Lw_icmpeq C 1311 dL_577 (by decide) (kk σ2 hR2)
theorem law_c13 (C : LC p s m meth c b L xs g) {i : Nat} (hi : i + 5 ≤ L) {σ : Sg} (hR : Rel σ) (kk : ∀ σ', Rel σ' → Lv p l e s m below meth c b g 1311 (LVs i) [] σ') : Lv p l e s m below meth c b g 582 (LVs i) [] σ := by
  refine Lw_aload C 2 dL_582 rfl ?_
  refine Lw_arg (k := 1) C hi (by decide) dL_583 dL_584 dL_585 (by decide) dL_586 dL_587 ?_
  refine Lw_arg (k := 2) C hi (by decide) dL_588 dL_589 dL_590 (by decide) dL_591 dL_592 ?_
  refine Lw_call (q := 0) C [.int (xs (i + 1)), .int (xs (i + 2))] vX9_grid G9 lay_0 dL_593 wL_715 rfl rfl (Nat.le_of_ble_eq_true rfl) (O_grid hR (xs (i + 1)) (xs (i + 2))) ?_
  rintro r σ1 ⟨v, rfl, h2⟩
  refine Lw_aload C 3 dL_596 rfl ?_
  refine Lw_arg (k := 1) C hi (by decide) dL_597 dL_598 dL_599 (by decide) dL_600 dL_601 ?_
  refine Lw_arg (k := 2) C hi (by decide) dL_602 dL_603 dL_604 (by decide) dL_605 dL_606 ?_
  refine Lw_call (q := 245) C [.int (xs (i + 1)), .int (xs (i + 2))] vX10_grid G10 lay_245 dL_607 wL_1538 rfl rfl (Nat.le_of_ble_eq_true rfl) h2 ?_
  rintro r σ2 ⟨rfl, hR2⟩
  exact Lw_icmpeq C 1311 dL_610 (by decide) (kk σ2 hR2)
theorem law_c14 (C : LC p s m meth c b L xs g) {i : Nat} (hi : i + 5 ≤ L) {σ : Sg} (hR : Rel σ) (kk : ∀ σ', Rel σ' → Lv p l e s m below meth c b g 1311 (LVs i) [] σ') : Lv p l e s m below meth c b g 615 (LVs i) [] σ := by
  refine Lw_aload C 2 dL_615 rfl ?_
  refine Lw_arg (k := 1) C hi (by decide) dL_616 dL_617 dL_618 (by decide) dL_619 dL_620 ?_
  refine Lw_arg (k := 2) C hi (by decide) dL_621 dL_622 dL_623 (by decide) dL_624 dL_625 ?_
  refine Lw_call (q := 0) C [.int (xs (i + 1)), .int (xs (i + 2))] vX9_account G9 lay_0 dL_626 wL_757 rfl rfl (Nat.le_of_ble_eq_true rfl) (O_account hR (xs (i + 1)) (xs (i + 2))) ?_
  rintro r σ1 ⟨v, rfl, h2⟩
  refine Lw_aload C 3 dL_629 rfl ?_
  refine Lw_arg (k := 1) C hi (by decide) dL_630 dL_631 dL_632 (by decide) dL_633 dL_634 ?_
  refine Lw_arg (k := 2) C hi (by decide) dL_635 dL_636 dL_637 (by decide) dL_638 dL_639 ?_
  refine Lw_call (q := 245) C [.int (xs (i + 1)), .int (xs (i + 2))] vX10_account G10 lay_245 dL_640 wL_1559 rfl rfl (Nat.le_of_ble_eq_true rfl) h2 ?_
  rintro r σ2 ⟨rfl, hR2⟩
  exact Lw_icmpeq C 1311 dL_643 (by decide) (kk σ2 hR2)
theorem law_c15 (C : LC p s m meth c b L xs g) {i : Nat} (hi : i + 5 ≤ L) {σ : Sg} (hR : Rel σ) (kk : ∀ σ', Rel σ' → Lv p l e s m below meth c b g 1311 (LVs i) [] σ') : Lv p l e s m below meth c b g 648 (LVs i) [] σ := by
  refine Lw_aload C 2 dL_648 rfl ?_
  refine Lw_arg (k := 1) C hi (by decide) dL_649 dL_650 dL_651 (by decide) dL_652 dL_653 ?_
  refine Lw_call (q := 0) C [.int (xs (i + 1))] vX9_values G9 lay_0 dL_654 wL_771 rfl rfl (Nat.le_of_ble_eq_true rfl) (O_values hR (xs (i + 1))) ?_
  rintro r σ1 ⟨v, rfl, h2⟩
  refine Lw_aload C 3 dL_657 rfl ?_
  refine Lw_arg (k := 1) C hi (by decide) dL_658 dL_659 dL_660 (by decide) dL_661 dL_662 ?_
  refine Lw_call (q := 245) C [.int (xs (i + 1))] vX10_values G10 lay_245 dL_663 wL_1567 rfl rfl (Nat.le_of_ble_eq_true rfl) h2 ?_
  rintro r σ2 ⟨rfl, hR2⟩
  exact Lw_icmpeq C 1311 dL_666 (by decide) (kk σ2 hR2)
theorem law_c16 (C : LC p s m meth c b L xs g) {i : Nat} (hi : i + 5 ≤ L) {σ : Sg} (hR : Rel σ) (kk : ∀ σ', Rel σ' → Lv p l e s m below meth c b g 1311 (LVs i) [] σ') : Lv p l e s m below meth c b g 671 (LVs i) [] σ := by
  refine Lw_aload C 2 dL_671 rfl ?_
  refine Lw_arg (k := 1) C hi (by decide) dL_672 dL_673 dL_674 (by decide) dL_675 dL_676 ?_
  refine Lw_call (q := 0) C [.int (xs (i + 1))] vX9_sure G9 lay_0 dL_677 wL_801 rfl rfl (Nat.le_of_ble_eq_true rfl) (O_sure hR (xs (i + 1))) ?_
  rintro r σ1 ⟨v, rfl, h2⟩
  refine Lw_aload C 3 dL_680 rfl ?_
  refine Lw_arg (k := 1) C hi (by decide) dL_681 dL_682 dL_683 (by decide) dL_684 dL_685 ?_
  refine Lw_call (q := 245) C [.int (xs (i + 1))] vX10_sure G10 lay_245 dL_686 wL_1583 rfl rfl (Nat.le_of_ble_eq_true rfl) h2 ?_
  rintro r σ2 ⟨rfl, hR2⟩
  exact Lw_icmpeq C 1311 dL_689 (by decide) (kk σ2 hR2)
theorem law_c17 (C : LC p s m meth c b L xs g) {i : Nat} (hi : i + 5 ≤ L) {σ : Sg} (hR : Rel σ) (kk : ∀ σ', Rel σ' → Lv p l e s m below meth c b g 1311 (LVs i) [] σ') : Lv p l e s m below meth c b g 694 (LVs i) [] σ := by
  refine Lw_aload C 2 dL_694 rfl ?_
  refine Lw_arg (k := 1) C hi (by decide) dL_695 dL_696 dL_697 (by decide) dL_698 dL_699 ?_
  refine Lw_arg (k := 2) C hi (by decide) dL_700 dL_701 dL_702 (by decide) dL_703 dL_704 ?_
  refine Lw_call (q := 0) C [.int (xs (i + 1)), .int (xs (i + 2))] vX9_name G9 lay_0 dL_705 wL_809 rfl rfl (Nat.le_of_ble_eq_true rfl) (O_name hR (xs (i + 1)) (xs (i + 2))) ?_
  rintro r σ1 ⟨v, rfl, h2⟩
  refine Lw_aload C 3 dL_708 rfl ?_
  refine Lw_arg (k := 1) C hi (by decide) dL_709 dL_710 dL_711 (by decide) dL_712 dL_713 ?_
  refine Lw_arg (k := 2) C hi (by decide) dL_714 dL_715 dL_716 (by decide) dL_717 dL_718 ?_
  refine Lw_call (q := 245) C [.int (xs (i + 1)), .int (xs (i + 2))] vX10_name G10 lay_245 dL_719 wL_1587 rfl rfl (Nat.le_of_ble_eq_true rfl) h2 ?_
  rintro r σ2 ⟨rfl, hR2⟩
  exact Lw_icmpeq C 1311 dL_722 (by decide) (kk σ2 hR2)
theorem law_c18 (C : LC p s m meth c b L xs g) {i : Nat} (hi : i + 5 ≤ L) {σ : Sg} (hR : Rel σ) (kk : ∀ σ', Rel σ' → Lv p l e s m below meth c b g 1311 (LVs i) [] σ') : Lv p l e s m below meth c b g 727 (LVs i) [] σ := by
  refine Lw_aload C 2 dL_727 rfl ?_
  refine Lw_arg (k := 1) C hi (by decide) dL_728 dL_729 dL_730 (by decide) dL_731 dL_732 ?_
  refine Lw_arg (k := 2) C hi (by decide) dL_733 dL_734 dL_735 (by decide) dL_736 dL_737 ?_
  refine Lw_arg (k := 3) C hi (by decide) dL_738 dL_739 dL_740 (by decide) dL_741 dL_742 ?_
  refine Lw_call (q := 0) C [.int (xs (i + 1)), .int (xs (i + 2)), .int (xs (i + 3))] vX9_dragged G9 lay_0 dL_743 wL_820 rfl rfl (Nat.le_of_ble_eq_true rfl) (O_dragged hR (xs (i + 1)) (xs (i + 2)) (xs (i + 3))) ?_
  rintro r σ1 ⟨v, rfl, h2⟩
  refine Lw_aload C 3 dL_746 rfl ?_
  refine Lw_arg (k := 1) C hi (by decide) dL_747 dL_748 dL_749 (by decide) dL_750 dL_751 ?_
  refine Lw_arg (k := 2) C hi (by decide) dL_752 dL_753 dL_754 (by decide) dL_755 dL_756 ?_
  refine Lw_arg (k := 3) C hi (by decide) dL_757 dL_758 dL_759 (by decide) dL_760 dL_761 ?_
  refine Lw_call (q := 245) C [.int (xs (i + 1)), .int (xs (i + 2)), .int (xs (i + 3))] vX10_dragged G10 lay_245 dL_762 wL_1592 rfl rfl (Nat.le_of_ble_eq_true rfl) h2 ?_
  rintro r σ2 ⟨rfl, hR2⟩
  exact Lw_icmpeq C 1311 dL_765 (by decide) (kk σ2 hR2)
theorem law_c19 (C : LC p s m meth c b L xs g) {i : Nat} (hi : i + 5 ≤ L) {σ : Sg} (hR : Rel σ) (kk : ∀ σ', Rel σ' → Lv p l e s m below meth c b g 1311 (LVs i) [] σ') : Lv p l e s m below meth c b g 770 (LVs i) [] σ := by
  refine Lw_aload C 2 dL_770 rfl ?_
  refine Lw_arg (k := 1) C hi (by decide) dL_771 dL_772 dL_773 (by decide) dL_774 dL_775 ?_
  refine Lw_arg (k := 2) C hi (by decide) dL_776 dL_777 dL_778 (by decide) dL_779 dL_780 ?_
  refine Lw_arg (k := 3) C hi (by decide) dL_781 dL_782 dL_783 (by decide) dL_784 dL_785 ?_
  refine Lw_arg (k := 4) C hi (by decide) dL_786 dL_787 dL_788 (by decide) dL_789 dL_790 ?_
  refine Lw_call (q := 0) C [.int (xs (i + 1)), .int (xs (i + 2)), .int (xs (i + 3)), .int (xs (i + 4))] vX9_together G9 lay_0 dL_791 wL_843 rfl rfl (Nat.le_of_ble_eq_true rfl) (O_together hR (xs (i + 1)) (xs (i + 2)) (xs (i + 3)) (xs (i + 4))) ?_
  rintro r σ1 ⟨v, rfl, h2⟩
  refine Lw_aload C 3 dL_794 rfl ?_
  refine Lw_arg (k := 1) C hi (by decide) dL_795 dL_796 dL_797 (by decide) dL_798 dL_799 ?_
  refine Lw_arg (k := 2) C hi (by decide) dL_800 dL_801 dL_802 (by decide) dL_803 dL_804 ?_
  refine Lw_arg (k := 3) C hi (by decide) dL_805 dL_806 dL_807 (by decide) dL_808 dL_809 ?_
  refine Lw_arg (k := 4) C hi (by decide) dL_810 dL_811 dL_812 (by decide) dL_813 dL_814 ?_
  refine Lw_call (q := 245) C [.int (xs (i + 1)), .int (xs (i + 2)), .int (xs (i + 3)), .int (xs (i + 4))] vX10_together G10 lay_245 dL_815 wL_1612 rfl rfl (Nat.le_of_ble_eq_true rfl) h2 ?_
  rintro r σ2 ⟨rfl, hR2⟩
  exact Lw_icmpeq C 1311 dL_818 (by decide) (kk σ2 hR2)
theorem law_c20 (C : LC p s m meth c b L xs g) {i : Nat} (hi : i + 5 ≤ L) {σ : Sg} (hR : Rel σ) (kk : ∀ σ', Rel σ' → Lv p l e s m below meth c b g 1311 (LVs i) [] σ') : Lv p l e s m below meth c b g 823 (LVs i) [] σ := by
  refine Lw_aload C 2 dL_823 rfl ?_
  refine Lw_arg (k := 1) C hi (by decide) dL_824 dL_825 dL_826 (by decide) dL_827 dL_828 ?_
  refine Lw_arg (k := 2) C hi (by decide) dL_829 dL_830 dL_831 (by decide) dL_832 dL_833 ?_
  refine Lw_call (q := 0) C [.int (xs (i + 1)), .int (xs (i + 2))] vX9_word G9 lay_0 dL_834 wL_851 rfl rfl (Nat.le_of_ble_eq_true rfl) (O_word hR (xs (i + 1)) (xs (i + 2))) ?_
  rintro r σ1 ⟨v, rfl, h2⟩
  refine Lw_aload C 3 dL_837 rfl ?_
  refine Lw_arg (k := 1) C hi (by decide) dL_838 dL_839 dL_840 (by decide) dL_841 dL_842 ?_
  refine Lw_arg (k := 2) C hi (by decide) dL_843 dL_844 dL_845 (by decide) dL_846 dL_847 ?_
  refine Lw_call (q := 245) C [.int (xs (i + 1)), .int (xs (i + 2))] vX10_word G10 lay_245 dL_848 wL_1616 rfl rfl (Nat.le_of_ble_eq_true rfl) h2 ?_
  rintro r σ2 ⟨rfl, hR2⟩
  exact Lw_icmpeq C 1311 dL_851 (by decide) (kk σ2 hR2)
theorem law_c21 (C : LC p s m meth c b L xs g) {i : Nat} (hi : i + 5 ≤ L) {σ : Sg} (hR : Rel σ) (kk : ∀ σ', Rel σ' → Lv p l e s m below meth c b g 1311 (LVs i) [] σ') : Lv p l e s m below meth c b g 856 (LVs i) [] σ := by
  refine Lw_aload C 2 dL_856 rfl ?_
  refine Lw_arg (k := 1) C hi (by decide) dL_857 dL_858 dL_859 (by decide) dL_860 dL_861 ?_
  refine Lw_call (q := 0) C [.int (xs (i + 1))] vX9_tabled G9 lay_0 dL_862 wL_867 rfl rfl (Nat.le_of_ble_eq_true rfl) (O_tabled hR (xs (i + 1))) ?_
  rintro r σ1 ⟨v, rfl, h2⟩
  refine Lw_aload C 3 dL_865 rfl ?_
  refine Lw_arg (k := 1) C hi (by decide) dL_866 dL_867 dL_868 (by decide) dL_869 dL_870 ?_
  refine Lw_call (q := 245) C [.int (xs (i + 1))] vX10_tabled G10 lay_245 dL_871 wL_1621 rfl rfl (Nat.le_of_ble_eq_true rfl) h2 ?_
  rintro r σ2 ⟨rfl, hR2⟩
  exact Lw_icmpeq C 1311 dL_874 (by decide) (kk σ2 hR2)
theorem law_c22 (C : LC p s m meth c b L xs g) {i : Nat} (hi : i + 5 ≤ L) {σ : Sg} (hR : Rel σ) (kk : ∀ σ', Rel σ' → Lv p l e s m below meth c b g 1311 (LVs i) [] σ') : Lv p l e s m below meth c b g 879 (LVs i) [] σ := by
  refine Lw_aload C 2 dL_879 rfl ?_
  refine Lw_arg (k := 1) C hi (by decide) dL_880 dL_881 dL_882 (by decide) dL_883 dL_884 ?_
  refine Lw_arg (k := 2) C hi (by decide) dL_885 dL_886 dL_887 (by decide) dL_888 dL_889 ?_
  refine Lw_call (q := 0) C [.int (xs (i + 1)), .int (xs (i + 2))] vX9_read G9 lay_0 dL_890 wL_884 rfl rfl (Nat.le_of_ble_eq_true rfl) (O_read hR (xs (i + 1)) (xs (i + 2))) ?_
  rintro r σ1 ⟨v, rfl, h2⟩
  refine Lw_aload C 3 dL_893 rfl ?_
  refine Lw_arg (k := 1) C hi (by decide) dL_894 dL_895 dL_896 (by decide) dL_897 dL_898 ?_
  refine Lw_arg (k := 2) C hi (by decide) dL_899 dL_900 dL_901 (by decide) dL_902 dL_903 ?_
  refine Lw_call (q := 245) C [.int (xs (i + 1)), .int (xs (i + 2))] vX10_read G10 lay_245 dL_904 wL_1629 rfl rfl (Nat.le_of_ble_eq_true rfl) h2 ?_
  rintro r σ2 ⟨rfl, hR2⟩
  exact Lw_icmpeq C 1311 dL_907 (by decide) (kk σ2 hR2)
theorem law_c23 (C : LC p s m meth c b L xs g) {i : Nat} (hi : i + 5 ≤ L) {σ : Sg} (hR : Rel σ) (kk : ∀ σ', Rel σ' → Lv p l e s m below meth c b g 1311 (LVs i) [] σ') : Lv p l e s m below meth c b g 912 (LVs i) [] σ := by
  refine Lw_aload C 2 dL_912 rfl ?_
  refine Lw_arg (k := 1) C hi (by decide) dL_913 dL_914 dL_915 (by decide) dL_916 dL_917 ?_
  refine Lw_arg (k := 2) C hi (by decide) dL_918 dL_919 dL_920 (by decide) dL_921 dL_922 ?_
  refine Lw_call (q := 0) C [.int (xs (i + 1)), .int (xs (i + 2))] vX9_best G9 lay_0 dL_923 wL_927 rfl rfl (Nat.le_of_ble_eq_true rfl) (O_best hR (xs (i + 1)) (xs (i + 2))) ?_
  rintro r σ1 ⟨v, rfl, h2⟩
  refine Lw_aload C 3 dL_926 rfl ?_
  refine Lw_arg (k := 1) C hi (by decide) dL_927 dL_928 dL_929 (by decide) dL_930 dL_931 ?_
  refine Lw_arg (k := 2) C hi (by decide) dL_932 dL_933 dL_934 (by decide) dL_935 dL_936 ?_
  refine Lw_call (q := 245) C [.int (xs (i + 1)), .int (xs (i + 2))] vX10_best G10 lay_245 dL_937 wL_1649 rfl rfl (Nat.le_of_ble_eq_true rfl) h2 ?_
  rintro r σ2 ⟨rfl, hR2⟩
  exact Lw_icmpeq C 1311 dL_940 (by decide) (kk σ2 hR2)
theorem law_c24 (C : LC p s m meth c b L xs g) {i : Nat} (hi : i + 5 ≤ L) {σ : Sg} (hR : Rel σ) (kk : ∀ σ', Rel σ' → Lv p l e s m below meth c b g 1311 (LVs i) [] σ') : Lv p l e s m below meth c b g 945 (LVs i) [] σ := by
  refine Lw_aload C 2 dL_945 rfl ?_
  refine Lw_arg (k := 1) C hi (by decide) dL_946 dL_947 dL_948 (by decide) dL_949 dL_950 ?_
  refine Lw_arg (k := 2) C hi (by decide) dL_951 dL_952 dL_953 (by decide) dL_954 dL_955 ?_
  refine Lw_arg (k := 3) C hi (by decide) dL_956 dL_957 dL_958 (by decide) dL_959 dL_960 ?_
  refine Lw_call (q := 0) C [.int (xs (i + 1)), .int (xs (i + 2)), .int (xs (i + 3))] vX9_judge G9 lay_0 dL_961 wL_947 rfl rfl (Nat.le_of_ble_eq_true rfl) (O_judge hR (xs (i + 1)) (xs (i + 2)) (xs (i + 3))) ?_
  rintro r σ1 ⟨v, rfl, h2⟩
  refine Lw_aload C 3 dL_964 rfl ?_
  refine Lw_arg (k := 1) C hi (by decide) dL_965 dL_966 dL_967 (by decide) dL_968 dL_969 ?_
  refine Lw_arg (k := 2) C hi (by decide) dL_970 dL_971 dL_972 (by decide) dL_973 dL_974 ?_
  refine Lw_arg (k := 3) C hi (by decide) dL_975 dL_976 dL_977 (by decide) dL_978 dL_979 ?_
  refine Lw_call (q := 245) C [.int (xs (i + 1)), .int (xs (i + 2)), .int (xs (i + 3))] vX10_judge G10 lay_245 dL_980 wL_1661 rfl rfl (Nat.le_of_ble_eq_true rfl) h2 ?_
  rintro r σ2 ⟨rfl, hR2⟩
  exact Lw_icmpeq C 1311 dL_983 (by decide) (kk σ2 hR2)
theorem law_c25 (C : LC p s m meth c b L xs g) {i : Nat} (hi : i + 5 ≤ L) {σ : Sg} (hR : Rel σ) (kk : ∀ σ', Rel σ' → Lv p l e s m below meth c b g 1311 (LVs i) [] σ') : Lv p l e s m below meth c b g 988 (LVs i) [] σ := by
  refine Lw_aload C 2 dL_988 rfl ?_
  refine Lw_arg (k := 1) C hi (by decide) dL_989 dL_990 dL_991 (by decide) dL_992 dL_993 ?_
  refine Lw_i2l C dL_994 ?_
  refine Lw_bipush C 32 dL_995 (by decide) ?_
  refine Lw_lshl C dL_997 ?_
  refine Lw_arg (k := 2) C hi (by decide) dL_998 dL_999 dL_1000 (by decide) dL_1001 dL_1002 ?_
  refine Lw_i2l C dL_1003 ?_
  refine Lw_ldc2 C (4294967295) dL_1004 wL_1768 ?_
  refine Lw_land C dL_1007 ?_
  refine Lw_lor C dL_1008 ?_
  refine Lw_call (q := 0) C [.long (((xs (i + 1)).toInt64 <<< ((32 : Int32).toInt64 &&& 63)) ||| ((xs (i + 2)).toInt64 &&& (4294967295)))] vX9_feed G9 lay_0 dL_1009 wL_967 rfl rfl (Nat.le_of_ble_eq_true rfl) (O_feed hR _) ?_
  rintro r σ1 ⟨v, rfl, h2⟩
  refine Lw_aload C 3 dL_1012 rfl ?_
  refine Lw_arg (k := 1) C hi (by decide) dL_1013 dL_1014 dL_1015 (by decide) dL_1016 dL_1017 ?_
  refine Lw_i2l C dL_1018 ?_
  refine Lw_bipush C 32 dL_1019 (by decide) ?_
  refine Lw_lshl C dL_1021 ?_
  refine Lw_arg (k := 2) C hi (by decide) dL_1022 dL_1023 dL_1024 (by decide) dL_1025 dL_1026 ?_
  refine Lw_i2l C dL_1027 ?_
  refine Lw_ldc2 C (4294967295) dL_1028 wL_1768 ?_
  refine Lw_land C dL_1031 ?_
  refine Lw_lor C dL_1032 ?_
  refine Lw_call (q := 245) C [.long (((xs (i + 1)).toInt64 <<< ((32 : Int32).toInt64 &&& 63)) ||| ((xs (i + 2)).toInt64 &&& (4294967295)))] vX10_feed G10 lay_245 dL_1033 wL_1669 rfl rfl (Nat.le_of_ble_eq_true rfl) h2 ?_
  rintro r σ2 ⟨rfl, hR2⟩
  exact Lw_icmpeq C 1311 dL_1036 (by decide) (kk σ2 hR2)
theorem law_c26 (C : LC p s m meth c b L xs g) {i : Nat} (hi : i + 5 ≤ L) {σ : Sg} (hR : Rel σ) (kk : ∀ σ', Rel σ' → Lv p l e s m below meth c b g 1311 (LVs i) [] σ') : Lv p l e s m below meth c b g 1041 (LVs i) [] σ := by
  refine Lw_aload C 2 dL_1041 rfl ?_
  refine Lw_arg (k := 1) C hi (by decide) dL_1042 dL_1043 dL_1044 (by decide) dL_1045 dL_1046 ?_
  refine Lw_call (q := 0) C [.int (xs (i + 1))] vX9_end G9 lay_0 dL_1047 wL_975 rfl rfl (Nat.le_of_ble_eq_true rfl) (O_end hR (xs (i + 1))) ?_
  rintro r σ1 ⟨v, rfl, h2⟩
  refine Lw_aload C 3 dL_1050 rfl ?_
  refine Lw_arg (k := 1) C hi (by decide) dL_1051 dL_1052 dL_1053 (by decide) dL_1054 dL_1055 ?_
  refine Lw_call (q := 245) C [.int (xs (i + 1))] vX10_end G10 lay_245 dL_1056 wL_1674 rfl rfl (Nat.le_of_ble_eq_true rfl) h2 ?_
  rintro r σ2 ⟨rfl, hR2⟩
  exact Lw_icmpeq C 1311 dL_1059 (by decide) (kk σ2 hR2)
theorem law_c27 (C : LC p s m meth c b L xs g) {i : Nat} (hi : i + 5 ≤ L) {σ : Sg} (hR : Rel σ) (kk : ∀ σ', Rel σ' → Lv p l e s m below meth c b g 1311 (LVs i) [] σ') : Lv p l e s m below meth c b g 1064 (LVs i) [] σ := by
  refine Lw_aload C 2 dL_1064 rfl ?_
  refine Lw_call (q := 0) C [] vX9_claims G9 lay_0 dL_1065 wL_983 rfl rfl (Nat.le_of_ble_eq_true rfl) (O_claims hR) ?_
  rintro r σ1 ⟨v, rfl, h2⟩
  refine Lw_aload C 3 dL_1068 rfl ?_
  refine Lw_call (q := 245) C [] vX10_claims G10 lay_245 dL_1069 wL_1678 rfl rfl (Nat.le_of_ble_eq_true rfl) h2 ?_
  rintro r σ2 ⟨rfl, hR2⟩
  exact Lw_icmpeq C 1311 dL_1072 (by decide) (kk σ2 hR2)
theorem law_c28 (C : LC p s m meth c b L xs g) {i : Nat} (hi : i + 5 ≤ L) {σ : Sg} (hR : Rel σ) (kk : ∀ σ', Rel σ' → Lv p l e s m below meth c b g 1311 (LVs i) [] σ') : Lv p l e s m below meth c b g 1077 (LVs i) [] σ := by
  refine Lw_aload C 2 dL_1077 rfl ?_
  refine Lw_call (q := 0) C [] vX9_fault G9 lay_0 dL_1078 wL_1108 rfl rfl (Nat.le_of_ble_eq_true rfl) (O_fault hR) ?_
  rintro r σ1 ⟨v, rfl, h2⟩
  refine Lw_aload C 3 dL_1081 rfl ?_
  refine Lw_call (q := 245) C [] vX10_fault G10 lay_245 dL_1082 wL_1714 rfl rfl (Nat.le_of_ble_eq_true rfl) h2 ?_
  rintro r σ2 ⟨rfl, hR2⟩
  exact Lw_icmpeq C 1311 dL_1085 (by decide) (kk σ2 hR2)
theorem law_c29 (C : LC p s m meth c b L xs g) {i : Nat} (hi : i + 5 ≤ L) {σ : Sg} (hR : Rel σ) (kk : ∀ σ', Rel σ' → Lv p l e s m below meth c b g 1311 (LVs i) [] σ') : Lv p l e s m below meth c b g 1090 (LVs i) [] σ := by
  refine Lw_aload C 2 dL_1090 rfl ?_
  refine Lw_arg (k := 1) C hi (by decide) dL_1091 dL_1092 dL_1093 (by decide) dL_1094 dL_1095 ?_
  refine Lw_arg (k := 2) C hi (by decide) dL_1096 dL_1097 dL_1098 (by decide) dL_1099 dL_1100 ?_
  refine Lw_call (q := 0) C [.int (xs (i + 1)), .int (xs (i + 2))] vX9_claim G9 lay_0 dL_1101 wL_1116 rfl rfl (Nat.le_of_ble_eq_true rfl) (O_claim hR (xs (i + 1)) (xs (i + 2))) ?_
  rintro r σ1 ⟨v, rfl, h2⟩
  refine Lw_aload C 3 dL_1104 rfl ?_
  refine Lw_arg (k := 1) C hi (by decide) dL_1105 dL_1106 dL_1107 (by decide) dL_1108 dL_1109 ?_
  refine Lw_arg (k := 2) C hi (by decide) dL_1110 dL_1111 dL_1112 (by decide) dL_1113 dL_1114 ?_
  refine Lw_call (q := 245) C [.int (xs (i + 1)), .int (xs (i + 2))] vX10_claim G10 lay_245 dL_1115 wL_1718 rfl rfl (Nat.le_of_ble_eq_true rfl) h2 ?_
  rintro r σ2 ⟨rfl, hR2⟩
  exact Lw_icmpeq C 1311 dL_1118 (by decide) (kk σ2 hR2)
theorem law_c30 (C : LC p s m meth c b L xs g) {i : Nat} (hi : i + 5 ≤ L) {σ : Sg} (hR : Rel σ) (kk : ∀ σ', Rel σ' → Lv p l e s m below meth c b g 1311 (LVs i) [] σ') : Lv p l e s m below meth c b g 1123 (LVs i) [] σ := by
  refine Lw_aload C 2 dL_1123 rfl ?_
  refine Lw_arg (k := 1) C hi (by decide) dL_1124 dL_1125 dL_1126 (by decide) dL_1127 dL_1128 ?_
  refine Lw_call (q := 0) C [.int (xs (i + 1))] vX9_withdraw G9 lay_0 dL_1129 wL_1133 rfl rfl (Nat.le_of_ble_eq_true rfl) (O_withdraw hR (xs (i + 1))) ?_
  rintro r σ1 ⟨v, rfl, h2⟩
  refine Lw_aload C 3 dL_1132 rfl ?_
  refine Lw_arg (k := 1) C hi (by decide) dL_1133 dL_1134 dL_1135 (by decide) dL_1136 dL_1137 ?_
  refine Lw_call (q := 245) C [.int (xs (i + 1))] vX10_withdraw G10 lay_245 dL_1138 wL_1734 rfl rfl (Nat.le_of_ble_eq_true rfl) h2 ?_
  rintro r σ2 ⟨rfl, hR2⟩
  exact Lw_icmpeq C 1311 dL_1141 (by decide) (kk σ2 hR2)
theorem law_c31 (C : LC p s m meth c b L xs g) {i : Nat} (hi : i + 5 ≤ L) {σ : Sg} (hR : Rel σ) (kk : ∀ σ', Rel σ' → Lv p l e s m below meth c b g 1311 (LVs i) [] σ') : Lv p l e s m below meth c b g 1146 (LVs i) [] σ := by
  refine Lw_aload C 2 dL_1146 rfl ?_
  refine Lw_arg (k := 1) C hi (by decide) dL_1147 dL_1148 dL_1149 (by decide) dL_1150 dL_1151 ?_
  refine Lw_call (q := 0) C [.int (xs (i + 1))] vX9_day G9 lay_0 dL_1152 wL_1141 rfl rfl (Nat.le_of_ble_eq_true rfl) (O_day hR (xs (i + 1))) ?_
  rintro r σ1 ⟨v, rfl, h2⟩
  refine Lw_aload C 3 dL_1155 rfl ?_
  refine Lw_arg (k := 1) C hi (by decide) dL_1156 dL_1157 dL_1158 (by decide) dL_1159 dL_1160 ?_
  refine Lw_call (q := 245) C [.int (xs (i + 1))] vX10_day G10 lay_245 dL_1161 wL_1738 rfl rfl (Nat.le_of_ble_eq_true rfl) h2 ?_
  rintro r σ2 ⟨rfl, hR2⟩
  exact Lw_icmpeq C 1311 dL_1164 (by decide) (kk σ2 hR2)
theorem law_c32 (C : LC p s m meth c b L xs g) {i : Nat} (hi : i + 5 ≤ L) {σ : Sg} (hR : Rel σ) (kk : ∀ σ', Rel σ' → Lv p l e s m below meth c b g 1311 (LVs i) [] σ') : Lv p l e s m below meth c b g 1169 (LVs i) [] σ := by
  refine Lw_aload C 2 dL_1169 rfl ?_
  refine Lw_arg (k := 1) C hi (by decide) dL_1170 dL_1171 dL_1172 (by decide) dL_1173 dL_1174 ?_
  refine Lw_arg (k := 2) C hi (by decide) dL_1175 dL_1176 dL_1177 (by decide) dL_1178 dL_1179 ?_
  refine Lw_call (q := 0) C [.int (xs (i + 1)), .int (xs (i + 2))] vX9_known G9 lay_0 dL_1180 wL_1149 rfl rfl (Nat.le_of_ble_eq_true rfl) (O_known hR (xs (i + 1)) (xs (i + 2))) ?_
  rintro r σ1 ⟨v, rfl, h2⟩
  refine Lw_aload C 3 dL_1183 rfl ?_
  refine Lw_arg (k := 1) C hi (by decide) dL_1184 dL_1185 dL_1186 (by decide) dL_1187 dL_1188 ?_
  refine Lw_arg (k := 2) C hi (by decide) dL_1189 dL_1190 dL_1191 (by decide) dL_1192 dL_1193 ?_
  refine Lw_call (q := 245) C [.int (xs (i + 1)), .int (xs (i + 2))] vX10_known G10 lay_245 dL_1194 wL_1743 rfl rfl (Nat.le_of_ble_eq_true rfl) h2 ?_
  rintro r σ2 ⟨rfl, hR2⟩
  exact Lw_icmpeq C 1311 dL_1197 (by decide) (kk σ2 hR2)
theorem law_c33 (C : LC p s m meth c b L xs g) {i : Nat} (hi : i + 5 ≤ L) {σ : Sg} (hR : Rel σ) (kk : ∀ σ', Rel σ' → Lv p l e s m below meth c b g 1311 (LVs i) [] σ') : Lv p l e s m below meth c b g 1202 (LVs i) [] σ := by
  refine Lw_aload C 2 dL_1202 rfl ?_
  refine Lw_arg (k := 1) C hi (by decide) dL_1203 dL_1204 dL_1205 (by decide) dL_1206 dL_1207 ?_
  refine Lw_arg (k := 2) C hi (by decide) dL_1208 dL_1209 dL_1210 (by decide) dL_1211 dL_1212 ?_
  refine Lw_arg (k := 3) C hi (by decide) dL_1213 dL_1214 dL_1215 (by decide) dL_1216 dL_1217 ?_
  refine Lw_call (q := 0) C [.int (xs (i + 1)), .int (xs (i + 2)), .int (xs (i + 3))] vX9_sheet G9 lay_0 dL_1218 wL_1161 rfl rfl (Nat.le_of_ble_eq_true rfl) (O_sheet hR (xs (i + 1)) (xs (i + 2)) (xs (i + 3))) ?_
  rintro r σ1 ⟨v, rfl, h2⟩
  refine Lw_aload C 3 dL_1221 rfl ?_
  refine Lw_arg (k := 1) C hi (by decide) dL_1222 dL_1223 dL_1224 (by decide) dL_1225 dL_1226 ?_
  refine Lw_arg (k := 2) C hi (by decide) dL_1227 dL_1228 dL_1229 (by decide) dL_1230 dL_1231 ?_
  refine Lw_arg (k := 3) C hi (by decide) dL_1232 dL_1233 dL_1234 (by decide) dL_1235 dL_1236 ?_
  refine Lw_call (q := 245) C [.int (xs (i + 1)), .int (xs (i + 2)), .int (xs (i + 3))] vX10_sheet G10 lay_245 dL_1237 wL_1747 rfl rfl (Nat.le_of_ble_eq_true rfl) h2 ?_
  rintro r σ2 ⟨rfl, hR2⟩
  exact Lw_icmpeq C 1311 dL_1240 (by decide) (kk σ2 hR2)
theorem law_c34 (C : LC p s m meth c b L xs g) {i : Nat} (hi : i + 5 ≤ L) {σ : Sg} (hR : Rel σ) (kk : ∀ σ', Rel σ' → Lv p l e s m below meth c b g 1311 (LVs i) [] σ') : Lv p l e s m below meth c b g 1245 (LVs i) [] σ := by
  refine Lw_aload C 2 dL_1245 rfl ?_
  refine Lw_arg (k := 1) C hi (by decide) dL_1246 dL_1247 dL_1248 (by decide) dL_1249 dL_1250 ?_
  refine Lw_arg (k := 2) C hi (by decide) dL_1251 dL_1252 dL_1253 (by decide) dL_1254 dL_1255 ?_
  refine Lw_arg (k := 3) C hi (by decide) dL_1256 dL_1257 dL_1258 (by decide) dL_1259 dL_1260 ?_
  refine Lw_call (q := 0) C [.int (xs (i + 1)), .int (xs (i + 2)), .int (xs (i + 3))] vX9_lay G9 lay_0 dL_1261 wL_1170 rfl rfl (Nat.le_of_ble_eq_true rfl) (O_lay hR (xs (i + 1)) (xs (i + 2)) (xs (i + 3))) ?_
  rintro r σ1 ⟨v, rfl, h2⟩
  refine Lw_aload C 3 dL_1264 rfl ?_
  refine Lw_arg (k := 1) C hi (by decide) dL_1265 dL_1266 dL_1267 (by decide) dL_1268 dL_1269 ?_
  refine Lw_arg (k := 2) C hi (by decide) dL_1270 dL_1271 dL_1272 (by decide) dL_1273 dL_1274 ?_
  refine Lw_arg (k := 3) C hi (by decide) dL_1275 dL_1276 dL_1277 (by decide) dL_1278 dL_1279 ?_
  refine Lw_call (q := 245) C [.int (xs (i + 1)), .int (xs (i + 2)), .int (xs (i + 3))] vX10_lay G10 lay_245 dL_1280 wL_1754 rfl rfl (Nat.le_of_ble_eq_true rfl) h2 ?_
  rintro r σ2 ⟨rfl, hR2⟩
  exact Lw_icmpeq C 1311 dL_1283 (by decide) (kk σ2 hR2)
theorem law_c35 (C : LC p s m meth c b L xs g) {i : Nat} (hi : i + 5 ≤ L) {σ : Sg} (hR : Rel σ) (kk : ∀ σ', Rel σ' → Lv p l e s m below meth c b g 1311 (LVs i) [] σ') : Lv p l e s m below meth c b g 1288 (LVs i) [] σ := by
  refine Lw_aload C 2 dL_1288 rfl ?_
  refine Lw_arg (k := 1) C hi (by decide) dL_1289 dL_1290 dL_1291 (by decide) dL_1292 dL_1293 ?_
  refine Lw_call (q := 0) C [.int (xs (i + 1))] vX9_count G9 lay_0 dL_1294 wL_1181 rfl rfl (Nat.le_of_ble_eq_true rfl) (O_count hR (xs (i + 1))) ?_
  rintro r σ1 ⟨v, rfl, h2⟩
  refine Lw_aload C 3 dL_1297 rfl ?_
  refine Lw_arg (k := 1) C hi (by decide) dL_1298 dL_1299 dL_1300 (by decide) dL_1301 dL_1302 ?_
  refine Lw_call (q := 245) C [.int (xs (i + 1))] vX10_count G10 lay_245 dL_1303 wL_1764 rfl rfl (Nat.le_of_ble_eq_true rfl) h2 ?_
  rintro r σ2 ⟨rfl, hR2⟩
  exact Lw_icmpeq C 1311 dL_1306 (by decide) (kk σ2 hR2)
theorem law_sw (C : LC p s m meth c b L xs g) {i : Nat} (hi : i + 5 ≤ L) {σ : Sg} (hR : Rel σ) (kk : ∀ σ', Rel σ' → Lv p l e s m below meth c b g 1311 (LVs i) [] σ') {n : Nat} (hn : n < 64) : Lv p l e s m below meth c b g 32 (LVs i) [.int (nI n)] σ := by
  by_cases h : n < 36
  · rcases (show n = 0 ∨ n = 1 ∨ n = 2 ∨ n = 3 ∨ n = 4 ∨ n = 5 ∨ n = 6 ∨ n = 7 ∨ n = 8 ∨ n = 9 ∨ n = 10 ∨ n = 11 ∨ n = 12 ∨ n = 13 ∨ n = 14 ∨ n = 15 ∨ n = 16 ∨ n = 17 ∨ n = 18 ∨ n = 19 ∨ n = 20 ∨ n = 21 ∨ n = 22 ∨ n = 23 ∨ n = 24 ∨ n = 25 ∨ n = 26 ∨ n = 27 ∨ n = 28 ∨ n = 29 ∨ n = 30 ∨ n = 31 ∨ n = 32 ∨ n = 33 ∨ n = 34 ∨ n = 35 by omega) with r | r | r | r | r | r | r | r | r | r | r | r | r | r | r | r | r | r | r | r | r | r | r | r | r | r | r | r | r | r | r | r | r | r | r | r
    · subst r; exact Lw_tableIn (off := 160) C 192 dL_32 (by decide) (by decide) rfl (by decide) (law_c0 C hi hR kk)
    · subst r; exact Lw_tableIn (off := 183) C 215 dL_32 (by decide) (by decide) rfl (by decide) (law_c1 C hi hR kk)
    · subst r; exact Lw_tableIn (off := 206) C 238 dL_32 (by decide) (by decide) rfl (by decide) (law_c2 C hi hR kk)
    · subst r; exact Lw_tableIn (off := 229) C 261 dL_32 (by decide) (by decide) rfl (by decide) (law_c3 C hi hR kk)
    · subst r; exact Lw_tableIn (off := 252) C 284 dL_32 (by decide) (by decide) rfl (by decide) (law_c4 C hi hR kk)
    · subst r; exact Lw_tableIn (off := 305) C 337 dL_32 (by decide) (by decide) rfl (by decide) (law_c5 C hi hR kk)
    · subst r; exact Lw_tableIn (off := 318) C 350 dL_32 (by decide) (by decide) rfl (by decide) (law_c6 C hi hR kk)
    · subst r; exact Lw_tableIn (off := 351) C 383 dL_32 (by decide) (by decide) rfl (by decide) (law_c7 C hi hR kk)
    · subst r; exact Lw_tableIn (off := 374) C 406 dL_32 (by decide) (by decide) rfl (by decide) (law_c8 C hi hR kk)
    · subst r; exact Lw_tableIn (off := 407) C 439 dL_32 (by decide) (by decide) rfl (by decide) (law_c9 C hi hR kk)
    · subst r; exact Lw_tableIn (off := 451) C 483 dL_32 (by decide) (by decide) rfl (by decide) (law_c10 C hi hR kk)
    · subst r; exact Lw_tableIn (off := 474) C 506 dL_32 (by decide) (by decide) rfl (by decide) (law_c11 C hi hR kk)
    · subst r; exact Lw_tableIn (off := 507) C 539 dL_32 (by decide) (by decide) rfl (by decide) (law_c12 C hi hR kk)
    · subst r; exact Lw_tableIn (off := 550) C 582 dL_32 (by decide) (by decide) rfl (by decide) (law_c13 C hi hR kk)
    · subst r; exact Lw_tableIn (off := 583) C 615 dL_32 (by decide) (by decide) rfl (by decide) (law_c14 C hi hR kk)
    · subst r; exact Lw_tableIn (off := 616) C 648 dL_32 (by decide) (by decide) rfl (by decide) (law_c15 C hi hR kk)
    · subst r; exact Lw_tableIn (off := 639) C 671 dL_32 (by decide) (by decide) rfl (by decide) (law_c16 C hi hR kk)
    · subst r; exact Lw_tableIn (off := 662) C 694 dL_32 (by decide) (by decide) rfl (by decide) (law_c17 C hi hR kk)
    · subst r; exact Lw_tableIn (off := 695) C 727 dL_32 (by decide) (by decide) rfl (by decide) (law_c18 C hi hR kk)
    · subst r; exact Lw_tableIn (off := 738) C 770 dL_32 (by decide) (by decide) rfl (by decide) (law_c19 C hi hR kk)
    · subst r; exact Lw_tableIn (off := 791) C 823 dL_32 (by decide) (by decide) rfl (by decide) (law_c20 C hi hR kk)
    · subst r; exact Lw_tableIn (off := 824) C 856 dL_32 (by decide) (by decide) rfl (by decide) (law_c21 C hi hR kk)
    · subst r; exact Lw_tableIn (off := 847) C 879 dL_32 (by decide) (by decide) rfl (by decide) (law_c22 C hi hR kk)
    · subst r; exact Lw_tableIn (off := 880) C 912 dL_32 (by decide) (by decide) rfl (by decide) (law_c23 C hi hR kk)
    · subst r; exact Lw_tableIn (off := 913) C 945 dL_32 (by decide) (by decide) rfl (by decide) (law_c24 C hi hR kk)
    · subst r; exact Lw_tableIn (off := 956) C 988 dL_32 (by decide) (by decide) rfl (by decide) (law_c25 C hi hR kk)
    · subst r; exact Lw_tableIn (off := 1009) C 1041 dL_32 (by decide) (by decide) rfl (by decide) (law_c26 C hi hR kk)
    · subst r; exact Lw_tableIn (off := 1032) C 1064 dL_32 (by decide) (by decide) rfl (by decide) (law_c27 C hi hR kk)
    · subst r; exact Lw_tableIn (off := 1045) C 1077 dL_32 (by decide) (by decide) rfl (by decide) (law_c28 C hi hR kk)
    · subst r; exact Lw_tableIn (off := 1058) C 1090 dL_32 (by decide) (by decide) rfl (by decide) (law_c29 C hi hR kk)
    · subst r; exact Lw_tableIn (off := 1091) C 1123 dL_32 (by decide) (by decide) rfl (by decide) (law_c30 C hi hR kk)
    · subst r; exact Lw_tableIn (off := 1114) C 1146 dL_32 (by decide) (by decide) rfl (by decide) (law_c31 C hi hR kk)
    · subst r; exact Lw_tableIn (off := 1137) C 1169 dL_32 (by decide) (by decide) rfl (by decide) (law_c32 C hi hR kk)
    · subst r; exact Lw_tableIn (off := 1170) C 1202 dL_32 (by decide) (by decide) rfl (by decide) (law_c33 C hi hR kk)
    · subst r; exact Lw_tableIn (off := 1213) C 1245 dL_32 (by decide) (by decide) rfl (by decide) (law_c34 C hi hR kk)
    · subst r; exact Lw_tableIn (off := 1256) C 1288 dL_32 (by decide) (by decide) rfl (by decide) (law_c35 C hi hR kk)
  · exact Lw_tableOut C 1311 dL_32 (Or.inr (by rw [i_nI (by omega)]; omega)) (by decide) (kk σ hR)
theorem law_loop (C : LC p s m meth c b L xs g) : ∀ (n i : Nat) (σ : Sg), L ≤ i + n → i ≤ L + 5 → Rel σ → Lv p l e s m below meth c b g 18 (LVs i) [] σ := by
  intro n
  induction n with
  | zero =>
    intro i σ h1 h2 hR
    have hL := C.2.2.2.2.2.2
    refine Lw_head C (fun _ => Lw_end C dL_1317 dL_1318) (fun q => ?_)
    exact absurd (Lw_gt hL (by omega) (by omega)) q
  | succ n ih =>
    intro i σ h1 h2 hR
    have hL := C.2.2.2.2.2.2
    refine Lw_head C (fun _ => Lw_end C dL_1317 dL_1318) (fun q => ?_)
    have hi : i + 5 ≤ L := by
      by_cases z : i + 5 ≤ L
      · exact z
      · exact absurd (Lw_gt hL (by omega) (by omega)) q
    refine Lw_cell C hi ?_
    obtain ⟨k, hk, ek⟩ := and63 (xs i)
    rw [ek]
    exact law_sw C hi hR (fun σ' hR' => Lw_next C (by omega) (ih (i + 5) σ' (by omega) (by omega) hR')) hk
end LAWC
