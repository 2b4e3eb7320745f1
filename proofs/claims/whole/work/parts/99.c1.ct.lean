/-! ===== constructors: rows ===== -/
def CXC (M : MD) (g : GC) (p : Program) (s : State) (m : MethodId) (args : Array Value) (meth : Method) (c : Code) : Prop :=
  p.tables.exec = Jvm.exec ∧ c.code = M.2.1 ∧ meth.sig.returnType = M.2.2.2 ∧ c.maxLocals = M.2.2.1 ∧ s.vm.findClass M.1.cls = some m.cls ∧ (∀ w ∈ TB, w.before args s = true) ∧ meth.locks = false ∧ meth.name = "<init>" ∧ va_K g.1 G_cl (tysOf g) s
theorem va_AOA.moved {t : FieldType} {u U : State} (hvm : u.vm.Alike U.vm) (h : va_AOA t u) : va_AOA t U := over_moved (a := #[]) (a' := #[]) hvm h
/-- the tables' words that are not good words: of the array of int[], of the private constructors -/
def NXw (U : State) : Prop := va_AOA .int U ∧ va_Nw (.methodLinkNest RX9 9 yX2_init RX9) U ∧ va_Nw (.methodLinkNest RX9 17 yX6_init RX9) U ∧ va_Nw (.methodLinkNest RX9 39 yX0_init RX9) U ∧ va_Nw (.methodLinkNest RX9 75 yX5_init RX9) U
theorem NXw.same {u U : State} (hv : u.vm = U.vm) (h : NXw u) : NXw U := ⟨h.1.moved (by rw [hv]; exact Vm.Alike.refl _), h.2.1.same rfl hv, h.2.2.1.same rfl hv, h.2.2.2.1.same rfl hv, h.2.2.2.2.same rfl hv⟩
theorem NXw.warm {s U : State} (hW : s.WarmedH U.vm) (h : NXw s) : NXw U := ⟨h.1.moved hW.alike, h.2.1.warmM hW, h.2.2.1.warmM hW, h.2.2.2.1.warmM hW, h.2.2.2.2.warmM hW⟩
/-- from pc on, with this stack and this world, Q is reached -/
def Ct (g : GC) (p : Program) (l : Launch) (e : Env) (R : Room) (s : State) (m : MethodId) (args : Array Value) (below : List Frame) (meth : Method) (c : Code) (A : Nat → Prop) (Q : State → Prop) (ls : Array Slot) (pc : Nat) (st : List Value) (ws : va_W) (cells slots : Nat) : Prop :=
  ∀ (H : Heap) (locs : List Loc), va_P g.1 G_cl ws H → va_D A ws → va_S A s.heap H locs → W p l e R s m args below meth c H locs cells slots Q (F0 m pc ls st)
section CTR
variable {M : MD} {g : GC} {p : Program} {l : Launch} {e : Env} {R : Room} {s : State} {m : MethodId} {args : Array Value} {below : List Frame} {meth : Method} {c : Code} {A : Nat → Prop} {Q : State → Prop} {ls : Array Slot} {pc : Nat} {st : List Value} {ws : va_W} {cells slots : Nat}
theorem ct_aload (C : CXC M g p s m args meth c) {n : Nat} {lv : List (Nat × Value)} (hl : lv_has ls n lv) {k : Fin 4} {y : Nat} (j : Nat) (hd : decode M.2.1 pc = .ok (.aload_n k, 1)) (hj : lv[j]? = some ((k : Nat), .ref y)) (kk : Ct g p l e R s m args below meth c A Q ls (pc + 1) (.ref y :: st) ws cells slots) : Ct g p l e R s m args below meth c A Q ls pc st ws cells slots :=
  fun H locs hP hD hS => lv_aload_n C.1 C.2.1 hd rfl (lv_at hl j hj) (kk H locs hP hD hS)
theorem ct_iconst (C : CXC M g p s m args meth c) {n : Int} (v : Int32) (hd : decode M.2.1 pc = .ok (.iconst n, 1)) (hv : Int32.ofInt n = v) (kk : Ct g p l e R s m args below meth c A Q ls (pc + 1) (.int v :: st) ws cells slots) : Ct g p l e R s m args below meth c A Q ls pc st ws cells slots :=
  fun H locs hP hD hS => lv_iconst C.1 C.2.1 hd hv (kk H locs hP hD hS)
theorem ct_bipush (C : CXC M g p s m args meth c) {n : Int} (v : Int32) (hd : decode M.2.1 pc = .ok (.bipush n, 2)) (hv : (Int8.ofInt n).toInt32 = v) (kk : Ct g p l e R s m args below meth c A Q ls (pc + 2) (.int v :: st) ws cells slots) : Ct g p l e R s m args below meth c A Q ls pc st ws cells slots :=
  fun H locs hP hD hS => lv_bipush C.1 C.2.1 hd hv (kk H locs hP hD hS)
theorem ct_sipush (C : CXC M g p s m args meth c) {n : Int} (v : Int32) (hd : decode M.2.1 pc = .ok (.sipush n, 3)) (hv : (Int16.ofInt n).toInt32 = v) (kk : Ct g p l e R s m args below meth c A Q ls (pc + 3) (.int v :: st) ws cells slots) : Ct g p l e R s m args below meth c A Q ls pc st ws cells slots :=
  fun H locs hP hD hS => lv_sipush C.1 C.2.1 hd hv (kk H locs hP hD hS)
theorem ct_newa (C : CXC M g p s m args meth c) (hA : ∀ q : Nat, s.heap.size ≤ q → A q) {atype : ArrayType} {ty : FieldType} (tt : Nat) (hw : Cond.arrayClass (newarray.typeOf atype) ∈ TB) (hty : newarray.typeOf atype = ty) (htt : (tysOf g)[tt]? = some (g.2.2.1 tt, ty)) (hra : ∀ (U : State) (cA : ClassId), va_RA U cA ty → U.vm.findClass ("[" ++ ty.toString) = some cA) {n : Int32} {N' : Nat} {a0 : vp_A} (ha : ∀ cA : ClassId, vp_cell cA a0 = arrV cA N' (fun _ => defaultValue ty)) (hn : ¬ n < 0) (hN : n.toNatClampNeg = N') (hbytes : N' * componentBytes ty ≤ 536870912) (hcells : cells + 1 ≤ R.cells) (hslots : slots + N' ≤ R.slots) (hd : decode M.2.1 pc = .ok (.newarray atype, 2))
    (kk : ∀ q : Nat, Ct g p l e R s m args below meth c A Q ls (pc + 2) (.ref q :: st) (ws ++ [(q, .inl (g.2.2.1 tt, a0))]) (cells + 1) (slots + N')) : Ct g p l e R s m args below meth c A Q ls pc (.int n :: st) ws cells slots := by
  intro H locs hP hD hS
  refine va_newa C.1 C.2.1 (C.2.2.2.2.2.1 _ hw) hty C.2.2.2.2.2.2.2.2 hP hD hS hA ha hn hN hbytes hcells hslots hd (fun q cA H1 hK1 hP1 hD1 hS1 => ?_)
  have h1 := hra _ _ (hK1.2 5 (cA, ty) rfl).2
  have h2 := hra _ _ (C.2.2.2.2.2.2.2.2.2 tt _ htt).2
  have e : cA = g.2.2.1 tt := Option.some.inj (h1.symm.trans h2)
  rw [e] at hP1 hD1
  exact kk q H1 locs hP1 hD1 hS1
theorem ct_putF (C : CXC M g p s m args meth c) {T : u_T} {n ci index a : Nat} {ty : Nat → FieldType} {k : Nat} {fs : List Value} {fty : FieldType} {v : Value} (G : GF ci M.1.cls T n ty) (q0 : Nat) (he : ws[q0]? = some (a, .inr (ci, fs))) (hk : k < n) (hown : (T k).1 = M.1.cls) (hfin : (T k).2.2.2 = true) (hty : parseFieldDescriptor (T k).2.2.1 = some fty) (hn : narrow fty v = v) (hfit : fits fty v = true) (hl : k < fs.length) (hd : decode M.2.1 pc = .ok (.putfield index, 3)) (hw : Cond.fieldLink M.1.cls index (T k).1 (T k).2.1 (T k).2.2.1 ∈ TB) (kk : Ct g p l e R s m args below meth c A Q ls (pc + 3) st (ws.set q0 (a, .inr (ci, fs.set k v))) cells slots) : Ct g p l e R s m args below meth c A Q ls pc (v :: .ref a :: st) ws cells slots :=
  fun H locs hP hD hS => va_putF C.1 C.2.1 C.2.2.2.2.2.1 G.2.1 ty G.2.2.1 G.2.2.2 C.2.2.2.2.1 C.2.2.2.2.2.2.2.2 hP hD hS q0 he G.1 k hk (C.2.2.2.2.2.1 _ hw) (fun _ h => h) hfin C.2.2.2.2.2.2.2.1 hown hty hn hfit hl hd (fun H1 locs1 hP1 hD1 hS1 => kk H1 locs1 hP1 hD1 hS1)
theorem ct_put (C : CXC M g p s m args meth c) {T : u_T} {n ci index a : Nat} {ty : Nat → FieldType} {k : Nat} {fs : List Value} {fty : FieldType} {v : Value} (G : GF ci M.1.cls T n ty) (q0 : Nat) (he : ws[q0]? = some (a, .inr (ci, fs))) (hk : k < n) (hfin : (T k).2.2.2 = false) (hty : parseFieldDescriptor (T k).2.2.1 = some fty) (hn : narrow fty v = v) (hfit : fits fty v = true) (hl : k < fs.length) (hd : decode M.2.1 pc = .ok (.putfield index, 3)) (hw : Cond.fieldLink M.1.cls index (T k).1 (T k).2.1 (T k).2.2.1 ∈ TB) (kk : Ct g p l e R s m args below meth c A Q ls (pc + 3) st (ws.set q0 (a, .inr (ci, fs.set k v))) cells slots) : Ct g p l e R s m args below meth c A Q ls pc (v :: .ref a :: st) ws cells slots :=
  fun H locs hP hD hS => va_put C.1 C.2.1 C.2.2.2.2.2.1 G.2.1 ty G.2.2.1 G.2.2.2 C.2.2.2.2.1 C.2.2.2.2.2.2.2.2 hP hD hS q0 he G.1 k hk (C.2.2.2.2.2.1 _ hw) (fun _ h => h) hfin hty hn hfit hl hd (fun H1 locs1 hP1 hD1 hS1 => kk H1 locs1 hP1 hD1 hS1)
theorem ct_objInit (C : CXC M g p s m args meth c) {a idx : Nat} {lv : List (Nat × Value)} (hl : lv_has ls M.2.2.1 lv) (hw : Cond.methodLink M.1.cls idx Lib.objectInit ∈ TB) (hi : Cond.instanceMethod Lib.objectInit ∈ TB) (hc : Cond.code Lib.objectInit ⟨#[0xb1]⟩ 1 none ∈ TB) (hf : 1 ≤ R.frames) (hls : 20 ≤ R.locals) (hst : st = []) (hd : decode M.2.1 pc = .ok (.invokespecial idx, 3)) (kk : Ct g p l e R s m args below meth c A Q ls (pc + 3) st ws cells slots) : Ct g p l e R s m args below meth c A Q ls pc (.ref a :: st) ws cells slots := by
  intro H locs hP hD hS
  subst hst
  refine W.objInit C.1 C.2.1 C.2.2.2.2.1 (C.2.2.2.2.2.1 _ hw) (C.2.2.2.2.2.1 _ hi) (C.2.2.2.2.2.1 _ hc) rfl (by rw [C.2.2.2.1]; exact hl.1) rfl hd hf ?_ ?_
  · exact Nat.le_trans (Nat.le_of_ble_eq_true rfl) hls
  · exact W.eq (g2 := F0 m (pc + 3) ls []) rfl (kk H locs hP hD hS)
end CTR
/-- the contract of a constructor: the object's fields fs0 become the world ws' of some new addresses -/
def CtM {S : Type} (M : MD) (mc ms N : Nat) (as : List Value) (h0 : Nat) (e0 : va_E) (g : GC) (l : Launch) (Wn : S → va_W) : Prop :=
  ∀ sz : Nat, Met l M.1 (Cond.code M.1 M.2.1 M.2.2.1 M.2.2.2 :: TB) ({ frames := N, cells := mc, slots := ms, locals := 60 * N }) (va_Pc (.ref h0 :: as) (fun U => U.heap.size = sz ∧ va_P g.1 G_cl [(h0, e0)] U.heap ∧ va_K g.1 G_cl (tysOf g) U ∧ va_D (fun _ => True) [(h0, e0)] ∧ NXw U))
    (va_Qv (fun _ : S => True) (fun u t => va_P g.1 G_cl (Wn u) t.heap ∧ va_D (va_A [(h0, e0)] sz) (Wn u)) (va_A [(h0, e0)] sz)) mc ms (va_A [(h0, e0)] sz)
theorem ct_entry {S : Type} {M : MD} {mc ms N : Nat} {as : List Value} {h0 : Nat} {e0 : va_E} {g : GC} {l : Launch} {Wn : S → va_W} {lv : List (Nat × Value)} (hM : plainName M.1.cls = true) (hini : M.1.name = "<init>") (hn : (lg_sl (.ref h0 :: as)).length ≤ M.2.2.1) (hlv : lv_args 0 (.ref h0 :: as) = lv)
    (kk : ∀ (p : Program) (e : Env) (s : State) (m : MethodId) (args : Array Value) (below : List Frame) (meth : Method) (c : Code) (A : Nat → Prop) (ls : Array Slot), CXC M g p s m args meth c → NXw s → (∀ q : Nat, s.heap.size ≤ q → A q) → A = va_A [(h0, e0)] s.heap.size → lv_has ls M.2.2.1 lv → Ct g p l e { frames := N, cells := mc, slots := ms, locals := 60 * N } s m args below meth c A (MQ below (va_Qv (fun _ : S => True) (fun u t => va_P g.1 G_cl (Wn u) t.heap ∧ va_D A (Wn u)) A) args s mc ms A) ls 0 [] [(h0, e0)] 0 0) : CtM M mc ms N as h0 e0 g l Wn := by
  intro sz
  refine Met.ofW (cc := M.2.1) (maxL := M.2.2.1) (ret := M.2.2.2) hM rfl ?_
  intro p e s m args below meth c s₁ B hml hv
  obtain ⟨rfl, hsz, hP, hK, hD0, hov⟩ := hv
  subst hsz
  have hts := atoms_spec (ws := Cond.code M.1 M.2.1 M.2.2.1 M.2.2.2 :: TB) B.pre
  have hin : meth.name = "<init>" := (name_of_methodNamed B.named B.method).1.trans hini
  have hl := lv_entry (.ref h0 :: as) (n := M.2.2.1) hn
  rw [hlv] at hl
  rw [lg_entry_eq]
  exact kk p e s m _ below meth c _ _ ⟨B.exec, B.bytes, B.returns, hml, findClass_of_methodNamed B.named, fun w hw => hts w (List.mem_cons_of_mem _ hw), B.notSynchronized, hin, hK⟩ hov (fun q h => Or.inr h) rfl hl s.heap [] hP hD0.self va_S.rf
theorem ct_vret {S : Type} {M : MD} {g : GC} {p : Program} {l : Launch} {e : Env} {R : Room} {s : State} {m : MethodId} {args : Array Value} {below : List Frame} {meth : Method} {c : Code} {A : Nat → Prop} {ls : Array Slot} {pc mc ms : Nat} {ws : va_W} {Wn : S → va_W} (C : CXC M g p s m args meth c) (u : S) (hu : Wn u = ws) (hr : M.2.2.2 = none) (hd : decode M.2.1 pc = .ok (.return_, 1)) : Ct g p l e R s m args below meth c A (MQ below (va_Qv (fun _ : S => True) (fun u t => va_P g.1 G_cl (Wn u) t.heap ∧ va_D A (Wn u)) A) args s mc ms A) ls pc [] ws mc ms := by
  intro H locs hP hD hS
  refine W.vret C.1 C.2.1 (C.2.2.1.trans hr) (fun t ht hW => ⟨⟨u, rfl, trivial, ?_⟩, hS.F ht⟩) hS.2.2 hd C.2.2.2.2.2.2.1
  show va_P g.1 G_cl (Wn u) t.heap ∧ va_D A (Wn u)
  rw [hu, ht]
  exact ⟨hP, hD⟩
theorem pl_rows (R : List Nat) (f : Nat → va_E) (e : va_E) : va_pl ([] ++ R) (vr_up f R e) = R.map (fun a => (a, e)) := by
  unfold va_pl
  rw [List.nil_append]
  apply List.map_congr_left
  intro a ha
  rw [vr_up_in ha]
section CTM
variable {M : MD} {g : GC} {p : Program} {l : Launch} {e : Env} {R : Room} {s : State} {m : MethodId} {args : Array Value} {below : List Frame} {meth : Method} {c : Code} {A : Nat → Prop} {Q : State → Prop} {ls : Array Slot} {pc : Nat} {st : List Value} {ws : va_W} {cells slots : Nat}
/-- new int[n][k]: the outer array and its rows -/
theorem ct_mna (C : CXC M g p s m args meth c) (hA : ∀ q : Nat, s.heap.size ≤ q → A q) {index : Nat} (hcl : Cond.classLink M.1.cls index "[[I" ∈ TB) (hov : NXw s) (har : Cond.arrayClass .int ∈ TB) {n k : Int32} {N' K' : Nat} (hn : ¬ n < 0) (hk : ¬ k < 0) (hN : n.toNatClampNeg = N') (hM : k.toNatClampNeg = K') (hb1 : N' * 4 ≤ 536870912) (hb2 : K' * 4 ≤ 536870912) (hb3 : K' ≤ 536870912) (hcells : cells + (1 + N') ≤ R.cells) (hslots : slots + (N' + N' * K') ≤ R.slots) (hd : decode M.2.1 pc = .ok (.multianewarray index 2, 4))
    (kk : ∀ (q : Nat) (r : Nat → Nat), Ct g p l e R s m args below meth c A Q ls (pc + 4) (.ref q :: st) (ws ++ ((q, .inl (g.2.2.1 4, N', .inr (.inr (.inr (.inr (fun i => if i < N' then some (r i) else none)))))) :: (List.range N').map (fun i => (r i, .inl (g.2.2.1 0, K', .inl (fun _ => 0)))))) (cells + 1 + N') (slots + N' + N' * K')) : Ct g p l e R s m args below meth c A Q ls pc (.int k :: .int n :: st) ws cells slots := by
  intro H locs hP hD hS
  have hI : s.vm.findClass "[I" = some (g.2.2.1 0) := (C.2.2.2.2.2.2.2.2.2 0 (g.2.2.1 0, .int) rfl).2
  have h4 : s.vm.findClass "[[I" = some (g.2.2.1 4) := (C.2.2.2.2.2.2.2.2.2 4 (g.2.2.1 4, .array .int) rfl).2
  refine va_mna (X := ws) (L := []) (f := fun _ => .inr (0, [])) (ty := .int) (z := (K', .inl (fun _ => 0))) (own := M.1.cls) C.1 C.2.1 C.2.2.2.2.1 (C.2.2.2.2.2.1 _ hcl) hov.1 (C.2.2.2.2.2.1 _ har) hI C.2.2.2.2.2.2.2.2 (by show va_P g.1 G_cl (ws ++ []) H; rw [List.append_nil]; exact hP) (by show va_D A (ws ++ []); rw [List.append_nil]; exact hD) hS hA hn hk hN hM hb1 hb2 hb3 rfl rfl hcells hslots (fun c9 => by show ({ cls := c9, slots := Array.replicate K' (.int 0), vm := .none } : Cell) = _; rw [arrV_new]; rfl) hd (fun q r cA H1 _ _ hK1 hP1 hD1 hS1 => ?_)
  have h1 : s.vm.findClass "[[I" = some cA := (hK1.2 5 (cA, .array .int) rfl).2
  have ec : cA = g.2.2.1 4 := Option.some.inj (h1.symm.trans h4)
  rw [ec, pl_rows, List.append_assoc, List.map_map] at hP1 hD1
  exact kk q r H1 locs hP1 hD1 hS1
end CTM
