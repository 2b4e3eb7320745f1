/-! ===== constructors: rows over a world with the object ahead ===== -/
section CTX
variable {M : MD} {g : GC} {p : Program} {l : Launch} {e : Env} {R : Room} {s : State} {m : MethodId} {args : Array Value} {below : List Frame} {meth : Method} {c : Code} {A : Nat → Prop} {Q : State → Prop} {ls : Array Slot} {pc : Nat} {st : List Value} {ws ws' : va_W} {cells slots : Nat}
theorem ct_ws (h : ws = ws') (kk : Ct g p l e R s m args below meth c A Q ls pc st ws' cells slots) : Ct g p l e R s m args below meth c A Q ls pc st ws cells slots := h ▸ kk
theorem ct_dup (C : CXC M g p s m args meth c) {v : Value} (hd : decode M.2.1 pc = .ok (.dup, 1)) (hc : v.category = 1) (kk : Ct g p l e R s m args below meth c A Q ls (pc + 1) (v :: v :: st) ws cells slots) : Ct g p l e R s m args below meth c A Q ls pc (v :: st) ws cells slots :=
  fun H locs hP hD hS => lv_dup C.1 C.2.1 hd hc (kk H locs hP hD hS)
theorem ct_iast (C : CXC M g p s m args meth c) {f : Nat → Int32} {a n : Nat} {i x : Int32} {cA : ClassId} (q0 tt : Nat) (he : ws[q0]? = some (a, .inl (cA, n, .inl f))) (hty : (tysOf g)[tt]? = some (cA, .int)) (hi : vp_in i n) (hd : decode M.2.1 pc = .ok (.iastore, 1)) (kk : Ct g p l e R s m args below meth c A Q ls (pc + 1) st (ws.set q0 (a, .inl (cA, n, .inl (upd f i.toNatClampNeg x)))) cells slots) : Ct g p l e R s m args below meth c A Q ls pc (.int x :: .int i :: .ref a :: st) ws cells slots :=
  fun H locs hP hD hS => va_iast C.1 C.2.1 C.2.2.2.2.2.2.2.2 hP hD hS q0 tt he hty hi hd (fun H1 locs1 hP1 hD1 hS1 => kk H1 locs1 hP1 hD1 hS1)
theorem ct_istore (C : CXC M g p s m args meth c) {n : Nat} {lv lv' : List (Nat × Value)} (hl : lv_has ls n lv) {k : Fin 4} {x : Int32} (hd : decode M.2.1 pc = .ok (.istore_n k, 1)) (hk : (k : Nat) < n) (hv : ((k : Nat), Value.int x) :: lv.filter (fun q => !(q.1 == (k : Nat)) && !(q.1 + 1 == (k : Nat) && q.2.category == 2)) = lv') (kk : ∀ ls', lv_has ls' n lv' → Ct g p l e R s m args below meth c A Q ls' (pc + 1) st ws cells slots) : Ct g p l e R s m args below meth c A Q ls pc (.int x :: st) ws cells slots :=
  fun H locs hP hD hS => lv_istore_n C.1 C.2.1 hd rfl hl hk hv (fun ls' hl' => kk ls' hl' H locs hP hD hS)
theorem ct_astore (C : CXC M g p s m args meth c) {n : Nat} {lv lv' : List (Nat × Value)} (hl : lv_has ls n lv) {k : Fin 4} {x : Nat} (hd : decode M.2.1 pc = .ok (.astore_n k, 1)) (hk : (k : Nat) < n) (hv : ((k : Nat), Value.ref x) :: lv.filter (fun q => !(q.1 == (k : Nat)) && !(q.1 + 1 == (k : Nat) && q.2.category == 2)) = lv') (kk : ∀ ls', lv_has ls' n lv' → Ct g p l e R s m args below meth c A Q ls' (pc + 1) st ws cells slots) : Ct g p l e R s m args below meth c A Q ls pc (.ref x :: st) ws cells slots :=
  fun H locs hP hD hS => lv_astore_n C.1 C.2.1 hd rfl hl hk hv (fun ls' hl' => kk ls' hl' H locs hP hD hS)
theorem ct_iload (C : CXC M g p s m args meth c) {n : Nat} {lv : List (Nat × Value)} (hl : lv_has ls n lv) {k : Fin 4} {x : Int32} (j : Nat) (hd : decode M.2.1 pc = .ok (.iload_n k, 1)) (hj : lv[j]? = some ((k : Nat), .int x)) (kk : Ct g p l e R s m args below meth c A Q ls (pc + 1) (.int x :: st) ws cells slots) : Ct g p l e R s m args below meth c A Q ls pc st ws cells slots :=
  fun H locs hP hD hS => lv_iload_n C.1 C.2.1 hd rfl (lv_at hl j hj) (kk H locs hP hD hS)
theorem ct_icmpge (C : CXC M g p s m args meth c) {x y : Int32} {off : Int} (tgt : Nat) (hd : decode M.2.1 pc = .ok (.if_icmp .ge off, 3)) (ht : (pc : Int) + off = (tgt : Int)) (h : y ≤ x) (kk : Ct g p l e R s m args below meth c A Q ls tgt st ws cells slots) : Ct g p l e R s m args below meth c A Q ls pc (.int y :: .int x :: st) ws cells slots :=
  fun H locs hP hD hS => lv_icmp_ge C.1 C.2.1 hd ht (fun _ => kk H locs hP hD hS) (fun q => absurd h q)
theorem ct_icmplt (C : CXC M g p s m args meth c) {x y : Int32} {off : Int} {tgt : Nat} (hd : decode M.2.1 pc = .ok (.if_icmp .ge off, 3)) (ht : (pc : Int) + off = (tgt : Int)) (h : ¬ y ≤ x) (kk : Ct g p l e R s m args below meth c A Q ls (pc + 3) st ws cells slots) : Ct g p l e R s m args below meth c A Q ls pc (.int y :: .int x :: st) ws cells slots :=
  fun H locs hP hD hS => lv_icmp_ge C.1 C.2.1 hd ht (fun q => absurd q h) (fun _ => kk H locs hP hD hS)
theorem ct_get (C : CXC M g p s m args meth c) {T : u_T} {n ci index a : Nat} {ty : Nat → FieldType} {k : Nat} {fs : List Value} {v : Value} (G : GF ci M.1.cls T n ty) (q0 : Nat) (he : ws[q0]? = some (a, .inr (ci, fs))) (hk : k < n) (hv : fs[k]? = some v) (hd : decode M.2.1 pc = .ok (.getfield index, 3)) (hw : Cond.fieldLink M.1.cls index (T k).1 (T k).2.1 (T k).2.2.1 ∈ TB) (kk : Ct g p l e R s m args below meth c A Q ls (pc + 3) (v :: st) ws cells slots) : Ct g p l e R s m args below meth c A Q ls pc (.ref a :: st) ws cells slots :=
  fun H locs hP hD hS => va_get C.1 C.2.1 C.2.2.2.2.2.1 G.2.1 C.2.2.2.2.1 C.2.2.2.2.2.2.2.2 hP q0 he G.1 k hk (C.2.2.2.2.2.1 _ hw) (fun _ h => h) hv hd (kk H locs hP hD hS)
theorem ct_iinc (C : CXC M g p s m args meth c) {n i : Nat} {d : Int} {x : Int32} {lv lv' : List (Nat × Value)} (hl : lv_has ls n lv) {v : Int32} (j : Nat) (hd : decode M.2.1 pc = .ok (.iinc i d, 3)) (hj : lv[j]? = some (i, .int x)) (hx : x + Int32.ofInt d = v) (hi : i < n) (hv : (i, Value.int v) :: lv.filter (fun q => !(q.1 == i) && !(q.1 + 1 == i && q.2.category == 2)) = lv') (kk : ∀ ls', lv_has ls' n lv' → Ct g p l e R s m args below meth c A Q ls' (pc + 3) st ws cells slots) : Ct g p l e R s m args below meth c A Q ls pc st ws cells slots :=
  fun H locs hP hD hS => lv_iinc C.1 C.2.1 hd hl hj hx hi hv (fun ls' hl' => kk ls' hl' H locs hP hD hS)
theorem ct_goto (C : CXC M g p s m args meth c) {off : Int} (tgt : Nat) (hd : decode M.2.1 pc = .ok (.goto off, 3)) (ht : (pc : Int) + off = (tgt : Int)) (kk : Ct g p l e R s m args below meth c A Q ls tgt st ws cells slots) : Ct g p l e R s m args below meth c A Q ls pc st ws cells slots :=
  fun H locs hP hD hS => lv_goto C.1 C.2.1 hd ht (kk H locs hP hD hS)
/-! the object ahead, the rest behind -/
variable {x0 : Nat × va_E} {R0 : va_W}
theorem ct_cons {Y : va_W} (kk : Ct g p l e R s m args below meth c A Q ls pc st (x0 :: (R0 ++ Y)) cells slots) : Ct g p l e R s m args below meth c A Q ls pc st ((x0 :: R0) ++ Y) cells slots := kk
theorem ct_newR (C : CXC M g p s m args meth c) (hA : ∀ q : Nat, s.heap.size ≤ q → A q) {atype : ArrayType} {ty : FieldType} (tt : Nat) (hw : Cond.arrayClass (newarray.typeOf atype) ∈ TB) (hty : newarray.typeOf atype = ty) (htt : (tysOf g)[tt]? = some (g.2.2.1 tt, ty)) (hra : ∀ (U : State) (cA : ClassId), va_RA U cA ty → U.vm.findClass ("[" ++ ty.toString) = some cA) {n : Int32} {N' : Nat} {a0 : vp_A} (ha : ∀ cA : ClassId, vp_cell cA a0 = arrV cA N' (fun _ => defaultValue ty)) (hn : ¬ n < 0) (hN : n.toNatClampNeg = N') (hbytes : N' * componentBytes ty ≤ 536870912) (hcells : cells + 1 ≤ R.cells) (hslots : slots + N' ≤ R.slots) (hd : decode M.2.1 pc = .ok (.newarray atype, 2))
    (kk : ∀ q : Nat, Ct g p l e R s m args below meth c A Q ls (pc + 2) (.ref q :: st) (x0 :: (R0 ++ [(q, .inl (g.2.2.1 tt, a0))])) (cells + 1) (slots + N')) : Ct g p l e R s m args below meth c A Q ls pc (.int n :: st) (x0 :: R0) cells slots :=
  ct_newa C hA tt hw hty htt hra ha hn hN hbytes hcells hslots hd (fun q => ct_cons (kk q))
theorem ct_mnaR (C : CXC M g p s m args meth c) (hov : NXw s) (hA : ∀ q : Nat, s.heap.size ≤ q → A q) {index : Nat} (hcl : Cond.classLink M.1.cls index "[[I" ∈ TB) (har : Cond.arrayClass .int ∈ TB) {n k : Int32} {N' K' : Nat} (hn : ¬ n < 0) (hk : ¬ k < 0) (hN : n.toNatClampNeg = N') (hM : k.toNatClampNeg = K') (hb1 : N' * 4 ≤ 536870912) (hb2 : K' * 4 ≤ 536870912) (hb3 : K' ≤ 536870912) (hcells : cells + (1 + N') ≤ R.cells) (hslots : slots + (N' + N' * K') ≤ R.slots) (hd : decode M.2.1 pc = .ok (.multianewarray index 2, 4))
    (kk : ∀ (q : Nat) (r : Nat → Nat), Ct g p l e R s m args below meth c A Q ls (pc + 4) (.ref q :: st) (x0 :: (R0 ++ ((q, .inl (g.2.2.1 4, N', .inr (.inr (.inr (.inr (fun i => if i < N' then some (r i) else none)))))) :: (List.range N').map (fun i => (r i, .inl (g.2.2.1 0, K', .inl (fun _ => 0))))))) (cells + 1 + N') (slots + N' + N' * K')) : Ct g p l e R s m args below meth c A Q ls pc (.int k :: .int n :: st) (x0 :: R0) cells slots :=
  ct_mna C hA hcl hov har hn hk hN hM hb1 hb2 hb3 hcells hslots hd (fun q r => ct_cons (kk q r))
theorem ct_putFH (C : CXC M g p s m args meth c) {T : u_T} {n ci index a : Nat} {ty : Nat → FieldType} {k : Nat} {fs fs' : List Value} {fty : FieldType} {v : Value} (G : GF ci M.1.cls T n ty) (hk : k < n) (hown : (T k).1 = M.1.cls) (hfin : (T k).2.2.2 = true) (hty : parseFieldDescriptor (T k).2.2.1 = some fty) (hn : narrow fty v = v) (hfit : fits fty v = true) (hl : k < fs.length) (hset : fs.set k v = fs') (hd : decode M.2.1 pc = .ok (.putfield index, 3)) (hw : Cond.fieldLink M.1.cls index (T k).1 (T k).2.1 (T k).2.2.1 ∈ TB) (kk : Ct g p l e R s m args below meth c A Q ls (pc + 3) st ((a, .inr (ci, fs')) :: R0) cells slots) : Ct g p l e R s m args below meth c A Q ls pc (v :: .ref a :: st) ((a, .inr (ci, fs)) :: R0) cells slots := by
  subst hset
  exact ct_putF C G 0 rfl hk hown hfin hty hn hfit hl hd hw kk
theorem ct_putH (C : CXC M g p s m args meth c) {T : u_T} {n ci index a : Nat} {ty : Nat → FieldType} {k : Nat} {fs fs' : List Value} {fty : FieldType} {v : Value} (G : GF ci M.1.cls T n ty) (hk : k < n) (hfin : (T k).2.2.2 = false) (hty : parseFieldDescriptor (T k).2.2.1 = some fty) (hn : narrow fty v = v) (hfit : fits fty v = true) (hl : k < fs.length) (hset : fs.set k v = fs') (hd : decode M.2.1 pc = .ok (.putfield index, 3)) (hw : Cond.fieldLink M.1.cls index (T k).1 (T k).2.1 (T k).2.2.1 ∈ TB) (kk : Ct g p l e R s m args below meth c A Q ls (pc + 3) st ((a, .inr (ci, fs')) :: R0) cells slots) : Ct g p l e R s m args below meth c A Q ls pc (v :: .ref a :: st) ((a, .inr (ci, fs)) :: R0) cells slots := by
  subst hset
  exact ct_put C G 0 rfl hk hfin hty hn hfit hl hd hw kk
theorem ct_getH (C : CXC M g p s m args meth c) {T : u_T} {n ci index a : Nat} {ty : Nat → FieldType} {k : Nat} {fs : List Value} {v : Value} (G : GF ci M.1.cls T n ty) (hk : k < n) (hv : fs[k]? = some v) (hd : decode M.2.1 pc = .ok (.getfield index, 3)) (hw : Cond.fieldLink M.1.cls index (T k).1 (T k).2.1 (T k).2.2.1 ∈ TB) (kk : Ct g p l e R s m args below meth c A Q ls (pc + 3) (v :: st) ((a, .inr (ci, fs)) :: R0) cells slots) : Ct g p l e R s m args below meth c A Q ls pc (.ref a :: st) ((a, .inr (ci, fs)) :: R0) cells slots :=
  ct_get C G 0 rfl hk hv hd hw kk
theorem set_mid {x y y' : Nat × va_E} {R1 Z : va_W} : (x :: ((R1 ++ [y]) ++ Z)).set (R1.length + 1) y' = x :: ((R1 ++ [y']) ++ Z) := by
  rw [List.set_cons_succ, List.append_assoc, List.append_assoc, List.set_append_right _ _ (Nat.le_refl _), Nat.sub_self]
  rfl
theorem get_mid {x y : Nat × va_E} {R1 Z : va_W} : (x :: ((R1 ++ [y]) ++ Z))[R1.length + 1]? = some y := by
  rw [List.getElem?_cons_succ, List.append_assoc, List.getElem?_append_right (Nat.le_refl _), Nat.sub_self]
  rfl
theorem ct_iastM (C : CXC M g p s m args meth c) {f : Nat → Int32} {a n : Nat} {i x : Int32} {Z : va_W} (hi : vp_in i n) (hd : decode M.2.1 pc = .ok (.iastore, 1)) (kk : Ct g p l e R s m args below meth c A Q ls (pc + 1) st (x0 :: ((R0 ++ [(a, .inl (g.2.2.1 0, n, .inl (upd f i.toNatClampNeg x)))]) ++ Z)) cells slots) : Ct g p l e R s m args below meth c A Q ls pc (.int x :: .int i :: .ref a :: st) (x0 :: ((R0 ++ [(a, .inl (g.2.2.1 0, n, .inl f))]) ++ Z)) cells slots :=
  ct_iast C (cA := g.2.2.1 0) (R0.length + 1) 0 get_mid rfl hi hd (by rw [set_mid]; exact kk)
theorem ct_iastL (C : CXC M g p s m args meth c) {f : Nat → Int32} {a n : Nat} {i x : Int32} (hi : vp_in i n) (hd : decode M.2.1 pc = .ok (.iastore, 1)) (kk : Ct g p l e R s m args below meth c A Q ls (pc + 1) st (x0 :: (R0 ++ [(a, .inl (g.2.2.1 0, n, .inl (upd f i.toNatClampNeg x)))])) cells slots) : Ct g p l e R s m args below meth c A Q ls pc (.int x :: .int i :: .ref a :: st) (x0 :: (R0 ++ [(a, .inl (g.2.2.1 0, n, .inl f))])) cells slots := by
  have h := ct_iastM (R := R) (e := e) (l := l) (Q := Q) (below := below) (A := A) (ls := ls) (st := st) (cells := cells) (slots := slots) (x0 := x0) (R0 := R0) (f := f) (a := a) (x := x) (Z := []) C hi hd
  rw [List.append_nil, List.append_nil] at h
  exact h kk
theorem ct_iast2 (C : CXC M g p s m args meth c) {f : Nat → Int32} {a n : Nat} {i x : Int32} {z1 z2 : Nat × va_E} (hi : vp_in i n) (hd : decode M.2.1 pc = .ok (.iastore, 1)) (kk : Ct g p l e R s m args below meth c A Q ls (pc + 1) st (x0 :: (((R0 ++ [(a, .inl (g.2.2.1 0, n, .inl (upd f i.toNatClampNeg x)))]) ++ [z1]) ++ [z2])) cells slots) : Ct g p l e R s m args below meth c A Q ls pc (.int x :: .int i :: .ref a :: st) (x0 :: (((R0 ++ [(a, .inl (g.2.2.1 0, n, .inl f))]) ++ [z1]) ++ [z2])) cells slots := by
  have h := ct_iastM (R := R) (e := e) (l := l) (Q := Q) (below := below) (A := A) (ls := ls) (st := st) (cells := cells) (slots := slots) (x0 := x0) (R0 := R0) (f := f) (a := a) (x := x) (Z := [z1] ++ [z2]) C hi hd
  rw [← List.append_assoc, ← List.append_assoc] at h
  exact h kk
/-! new objects, calls of constructors -/
theorem hfs_of {n : Nat} {ty : Nat → FieldType} {fs : List Value} (h : (List.range n).map (fun j => defaultValue (ty j)) = fs) : ∀ j, j < n → defaultValue (ty j) = vp_V fs j := by
  intro j hj
  subst h
  unfold vp_V
  rw [List.getD_eq_getElem?_getD, List.getElem?_map, List.getElem?_range hj]
  rfl
theorem nd_range (n : Nat) : va_nd (List.range n) = true := by
  have h : ∀ L : List Nat, L.Nodup → va_nd L = true := by
    intro L
    induction L with
    | nil => intro _; rfl
    | cons a L ih =>
      intro h
      have h2 := List.nodup_cons.mp h
      simp only [va_nd, Bool.and_eq_true, decide_eq_true_eq]
      exact ⟨h2.1, ih h2.2⟩
  exact h _ List.nodup_range
theorem at_end {X : va_W} {y : Nat × va_E} : [X.length].map (fun i => (X ++ [y])[i]?) = [y].map some := by simp
theorem at_front {X Y : va_W} : (List.range X.length).map (fun i => (X ++ Y)[i]?) = X.map some := by
  apply List.ext_getElem?
  intro i
  by_cases hi : i < X.length
  · rw [List.getElem?_map, List.getElem?_range hi, List.getElem?_map]
    show some ((X ++ Y)[i]?) = (X[i]?).map some
    rw [List.getElem?_append_left hi, List.getElem?_eq_getElem hi]
    rfl
  · rw [List.getElem?_eq_none (by simp; omega), List.getElem?_eq_none (by simp; omega)]
end CTX
section CTC
variable {S : Type} {M : MD} {g : GC} {p : Program} {l : Launch} {e : Env} {R : Room} {s : State} {m : MethodId} {args : Array Value} {below : List Frame} {meth : Method} {c : Code} {A : Nat → Prop} {Q : State → Prop} {ls : Array Slot} {pc : Nat} {X : va_W} {cells slots mc ms N q index nL : Nat} {e0 : va_E} {Wn : S → va_W} {H : Heap} {locs : List Loc} {as rest : List Value} {cc : ByteArray} {own : String}
/-- what a call of a constructor starts from -/
theorem wc_pre (hts : ∀ w ∈ TB, w.before args s = true) (hK : va_K g.1 G_cl (tysOf g) s) (hov : NXw s) (hP : va_P g.1 G_cl (X ++ [(q, e0)]) H) (hD : va_D A (X ++ [(q, e0)])) : PreS s H (va_Pc (.ref q :: as) (fun U => U.heap.size = H.size ∧ va_P g.1 G_cl [(q, e0)] U.heap ∧ va_K g.1 G_cl (tysOf g) U ∧ va_D (fun _ => True) [(q, e0)] ∧ NXw U)) (.ref q :: as) := by
  have hPc := hP.sub (ws' := [(q, e0)]) [X.length] (by simp)
  have hDc := hD.sub (ws' := [(q, e0)]) [X.length] rfl at_end
  refine ⟨fun a U g' mk h => ?_, fun U hU hW => ⟨rfl, by rw [hU], by rw [hU]; exact hPc, va_K.moved hW.alike hK, hDc.weaken (fun _ _ _ _ => trivial), hov.warm hW⟩⟩
  obtain ⟨q0, q1, qP, qK, qD, qX⟩ := h
  exact ⟨q0, q1, qP, va_K.moved (u := U) (U := U.calling g' mk a) (Vm.Alike.refl U.vm) qK, qD, NXw.same (u := U) (U := U.calling g' mk a) rfl qX⟩
theorem wc_in (hO : MOK M) : GoodIn TB (Cond.code M.1 M.2.1 M.2.2.1 M.2.2.2 :: TB) := fun w hw => by
  rcases List.mem_cons.mp hw with rfl | hw
  · exact TB_goodIn _ hO.1
  · exact TB_goodIn _ hw
theorem wc_join (hA : ∀ q : Nat, s.heap.size ≤ q → A q) (hP : va_P g.1 G_cl (X ++ [(q, e0)]) H) (hD : va_D A (X ++ [(q, e0)])) (hS : va_S A s.heap H locs)
    (hr : va_Run p l e R s m args below meth c H locs cells slots mc ms (F0 m pc ls (as.reverse ++ .ref q :: rest)) rest (va_Qv (fun _ : S => True) (fun u t => va_P g.1 G_cl (Wn u) t.heap ∧ va_D (va_A [(q, e0)] H.size) (Wn u)) (va_A [(q, e0)] H.size) (Value.ref q :: as).toArray) (va_A [(q, e0)] H.size))
    (kk : ∀ (u : S) (H1 : Heap) (locs1 : List Loc), va_P g.1 G_cl (X ++ Wn u) H1 → va_D A (X ++ Wn u) → va_S A s.heap H1 locs1 → W p l e R s m args below meth c H1 locs1 (cells + mc) (slots + ms) Q (F0 m (pc + 3) ls rest)) : W p l e R s m args below meth c H locs cells slots Q (F0 m pc ls (as.reverse ++ .ref q :: rest)) := by
  have hF : ∀ q' : Nat, va_A [(q, e0)] H.size q' → A q' := va_free (wc := [(q, e0)]) hD hS hA [X.length] at_end
  refine va_callv hr hS (fun q' _ h => hF q' h) hF (fun u t H1 locs1 ht hvm hu hB hz1 hk1 hS1 => ?_)
  obtain ⟨hP1, hD1⟩ := hB
  rw [ht] at hP1
  obtain ⟨hP2, hD2⟩ := va_join (wr := X) (w1 := Wn u) hP hD [X.length] (List.range X.length) at_end at_front (nd_range _) (fun i hi hj => by
    rw [List.mem_range] at hi
    rw [List.mem_singleton] at hj
    omega) hk1 hF hP1 hD1
  exact kk u H1 locs1 hP2 hD2 hS1
theorem wc_call (hx : p.tables.exec = Jvm.exec) (hb : c.code = cc) (hml : c.maxLocals = nL) (hown : s.vm.findClass own = some m.cls) (hts : ∀ w ∈ TB, w.before args s = true) (hK : va_K g.1 G_cl (tysOf g) s) (hov : NXw s) (hA : ∀ q : Nat, s.heap.size ≤ q → A q)
    (hM : CtM M mc ms N as q e0 g l Wn) (hO : MOK M) (hin : Cond.instanceMethod M.1 ∈ TB) (hini : M.1.name = "<init>") (hret : M.2.2.2 = none) (hw : Cond.methodLink own index M.1 ∈ TB) (hp : (parseMethodDescriptor M.1.desc).map (fun d => d.parameters.length) = some as.length)
    (hR : N + 1 ≤ R.frames ∧ 8 + (40 + 11) + 60 * N ≤ R.locals) (hl : ls.size = nL) (hc : (rest.map fun v => v.category).sum ≤ 8) (hd : decode cc pc = .ok (.invokespecial index, 3)) (hf : cells + mc ≤ R.cells ∧ slots + ms ≤ R.slots)
    (hP : va_P g.1 G_cl (X ++ [(q, e0)]) H) (hD : va_D A (X ++ [(q, e0)])) (hS : va_S A s.heap H locs)
    (kk : ∀ (u : S) (H1 : Heap) (locs1 : List Loc), va_P g.1 G_cl (X ++ Wn u) H1 → va_D A (X ++ Wn u) → va_S A s.heap H1 locs1 → W p l e R s m args below meth c H1 locs1 (cells + mc) (slots + ms) Q (F0 m (pc + 3) ls rest)) : W p l e R s m args below meth c H locs cells slots Q (F0 m pc ls (as.reverse ++ .ref q :: rest)) := by
  refine wc_join hA hP hD hS (va_runI (bytes := M.2.1) (maxL := M.2.2.1) (As := as) (rest := rest) ⟨hx, hb, hml, hown, hts⟩ (hM H.size) ⟨callB_of (ws' := TB) as.length hts (wc_in hO) (by rw [hret]) rfl rfl (hts _ hO.2.1) (hts _ hw) ⟨hO.2.2.1.1, hO.2.2.1.2, hp⟩ ⟨hR.1, ?_⟩, hini, hts _ hin⟩ (wc_pre hts hK hov hP hD) rfl rfl hl rfl (lv_room (pc := pc) (m := m) (ls := ls) (rest := as.reverse ++ .ref q :: rest) hc) hd hf) kk
  have h1 := hO.2.2.2.2
  have h2 := hR.2
  show 8 + (M.2.2.1 + 11) + 60 * N ≤ R.locals
  omega
theorem wc_callN (hx : p.tables.exec = Jvm.exec) (hb : c.code = cc) (hml : c.maxLocals = nL) (hown : s.vm.findClass own = some m.cls) (hts : ∀ w ∈ TB, w.before args s = true) (hK : va_K g.1 G_cl (tysOf g) s) (hov : NXw s) (hA : ∀ q : Nat, s.heap.size ≤ q → A q)
    (hM : CtM M mc ms N as q e0 g l Wn) (hO : MOK M) (hin : Cond.instanceMethod M.1 ∈ TB) (hini : M.1.name = "<init>") (hret : M.2.2.2 = none) {host : String} (hw : va_Nw (.methodLinkNest own index M.1 host) s) (hp : (parseMethodDescriptor M.1.desc).map (fun d => d.parameters.length) = some as.length)
    (hR : N + 1 ≤ R.frames ∧ 8 + (40 + 11) + 60 * N ≤ R.locals) (hl : ls.size = nL) (hc : (rest.map fun v => v.category).sum ≤ 8) (hd : decode cc pc = .ok (.invokespecial index, 3)) (hf : cells + mc ≤ R.cells ∧ slots + ms ≤ R.slots)
    (hP : va_P g.1 G_cl (X ++ [(q, e0)]) H) (hD : va_D A (X ++ [(q, e0)])) (hS : va_S A s.heap H locs)
    (kk : ∀ (u : S) (H1 : Heap) (locs1 : List Loc), va_P g.1 G_cl (X ++ Wn u) H1 → va_D A (X ++ Wn u) → va_S A s.heap H1 locs1 → W p l e R s m args below meth c H1 locs1 (cells + mc) (slots + ms) Q (F0 m (pc + 3) ls rest)) : W p l e R s m args below meth c H locs cells slots Q (F0 m pc ls (as.reverse ++ .ref q :: rest)) := by
  refine wc_join hA hP hD hS (va_runIN (bytes := M.2.1) (maxL := M.2.2.1) (As := as) (rest := rest) ⟨hx, hb, hml, hown, hts⟩ (hM H.size) ⟨va_cnB (ws' := TB) as.length hts (wc_in hO) (by rw [hret]) rfl rfl hw (hts _ hO.2.1) ⟨hO.2.2.1.1, hO.2.2.1.2, hp⟩ ⟨hR.1, ?_⟩, hini, hts _ hin⟩ (wc_pre hts hK hov hP hD) rfl rfl hl rfl (lv_room (pc := pc) (m := m) (ls := ls) (rest := as.reverse ++ .ref q :: rest) hc) hd hf) kk
  have h1 := hO.2.2.2.2
  have h2 := hR.2
  show 8 + (M.2.2.1 + 11) + 60 * N ≤ R.locals
  omega
end CTC
section CTD
variable {S : Type} {M M' : MD} {g : GC} {p : Program} {l : Launch} {e : Env} {R : Room} {s : State} {m : MethodId} {args : Array Value} {below : List Frame} {meth : Method} {c : Code} {A : Nat → Prop} {Q : State → Prop} {ls : Array Slot} {pc : Nat} {st : List Value} {X : va_W} {cells slots mc ms N q index : Nat} {e0 : va_E} {Wn : S → va_W} {as : List Value}
theorem ct_newO (C : CXC M g p s m args meth c) (hA : ∀ q : Nat, s.heap.size ≤ q → A q) {C' : String} {T : u_T} {n ci : Nat} {ty : Nat → FieldType} {fs : List Value} (G : GF ci C' T n ty) (hcl : Cond.classLink M.1.cls index C' ∈ TB) (hinst : Cond.instantiable C' n ∈ TB) (hini : Cond.initialized C' ∈ TB) (hfs : (List.range n).map (fun j => defaultValue (ty j)) = fs) (hcells : cells + 1 ≤ R.cells) (hslots : slots + n ≤ R.slots) (hd : decode M.2.1 pc = .ok (.new index, 3)) (kk : ∀ q, Ct g p l e R s m args below meth c A Q ls (pc + 3) (.ref q :: st) (X ++ [(q, .inr (ci, fs))]) (cells + 1) (slots + n)) : Ct g p l e R s m args below meth c A Q ls pc st X cells slots :=
  fun H locs hP hD hS => va_new C.1 C.2.1 C.2.2.2.2.2.1 G.2.1 ty G.2.2.1 C.2.2.2.2.1 (C.2.2.2.2.2.1 _ hcl) (C.2.2.2.2.2.1 _ hinst) (C.2.2.2.2.2.1 _ hini) C.2.2.2.2.2.2.2.2 hP hD hS hA G.1 (hfs_of hfs) hcells hslots hd (fun q H1 hP1 hD1 hS1 => kk q H1 locs hP1 hD1 hS1)
theorem ct_callO (C : CXC M g p s m args meth c) (hov : NXw s) (hA : ∀ q : Nat, s.heap.size ≤ q → A q) (as : List Value) {st0 : List Value} (hst : st0 = as.reverse ++ .ref q :: st)
    (hM : CtM M' mc ms N as q e0 g l Wn) (hO : MOK M') (hin : Cond.instanceMethod M'.1 ∈ TB) (hini : M'.1.name = "<init>") (hret : M'.2.2.2 = none) (hw : Cond.methodLink M.1.cls index M'.1 ∈ TB) (hp : (parseMethodDescriptor M'.1.desc).map (fun d => d.parameters.length) = some as.length)
    (hR : N + 1 ≤ R.frames ∧ 8 + (40 + 11) + 60 * N ≤ R.locals) (hl : ls.size = M.2.2.1) (hc : (st.map fun v => v.category).sum ≤ 8) (hd : decode M.2.1 pc = .ok (.invokespecial index, 3)) (hf : cells + mc ≤ R.cells ∧ slots + ms ≤ R.slots)
    (kk : ∀ u : S, Ct g p l e R s m args below meth c A Q ls (pc + 3) st (X ++ Wn u) (cells + mc) (slots + ms)) : Ct g p l e R s m args below meth c A Q ls pc st0 (X ++ [(q, e0)]) cells slots := by
  subst hst
  exact fun H locs hP hD hS => wc_call C.1 C.2.1 C.2.2.2.1 C.2.2.2.2.1 C.2.2.2.2.2.1 C.2.2.2.2.2.2.2.2 hov hA hM hO hin hini hret hw hp hR hl hc hd hf hP hD hS (fun u H1 locs1 hP1 hD1 hS1 => kk u H1 locs1 hP1 hD1 hS1)
theorem ct_callON (C : CXC M g p s m args meth c) (hov : NXw s) (hA : ∀ q : Nat, s.heap.size ≤ q → A q) (as : List Value) {st0 : List Value} (hst : st0 = as.reverse ++ .ref q :: st)
    (hM : CtM M' mc ms N as q e0 g l Wn) (hO : MOK M') (hin : Cond.instanceMethod M'.1 ∈ TB) (hini : M'.1.name = "<init>") (hret : M'.2.2.2 = none) {host : String} (hw : va_Nw (.methodLinkNest M.1.cls index M'.1 host) s) (hp : (parseMethodDescriptor M'.1.desc).map (fun d => d.parameters.length) = some as.length)
    (hR : N + 1 ≤ R.frames ∧ 8 + (40 + 11) + 60 * N ≤ R.locals) (hl : ls.size = M.2.2.1) (hc : (st.map fun v => v.category).sum ≤ 8) (hd : decode M.2.1 pc = .ok (.invokespecial index, 3)) (hf : cells + mc ≤ R.cells ∧ slots + ms ≤ R.slots)
    (kk : ∀ u : S, Ct g p l e R s m args below meth c A Q ls (pc + 3) st (X ++ Wn u) (cells + mc) (slots + ms)) : Ct g p l e R s m args below meth c A Q ls pc st0 (X ++ [(q, e0)]) cells slots := by
  subst hst
  exact fun H locs hP hD hS => wc_callN C.1 C.2.1 C.2.2.2.1 C.2.2.2.2.1 C.2.2.2.2.2.1 C.2.2.2.2.2.2.2.2 hov hA hM hO hin hini hret hw hp hR hl hc hd hf hP hD hS (fun u H1 locs1 hP1 hD1 hS1 => kk u H1 locs1 hP1 hD1 hS1)
/-- the last block and the one ahead of it change places -/
theorem ct_swap {x0 : Nat × va_E} {a b d : va_W} (kk : Ct g p l e R s m args below meth c A Q ls pc st (x0 :: ((a ++ d) ++ b)) cells slots) : Ct g p l e R s m args below meth c A Q ls pc st (x0 :: ((a ++ b) ++ d)) cells slots :=
  fun H locs hP hD hS => kk H locs (va_P.swap (a := x0 :: a) (b := b) (c := d) hP) (va_D.swap (a := x0 :: a) (b := b) (c := d) hD) hS
end CTD
