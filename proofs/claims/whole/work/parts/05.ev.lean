/-! ===== the context of a walk: addresses and classes ===== -/
/-- object classes and slots; the addresses of the cells; the array classes (int, boolean, byte, long, int[]); the addresses of the String constants' bytes -/
abbrev GC : Type := va_G × (Nat → Nat) × (Nat → ClassId) × (Nat → Nat)
def tr (g : GC) : Value → Value
  | .ref k => .ref (g.2.1 k)
  | .int x => .int x
  | .long x => .long x
  | .float x => .float x
  | .double x => .double x
  | .null => .null
  | .retAddr x => .retAddr x
def trL (g : GC) (l : List (Nat × Value)) : List (Nat × Value) := l.map fun q => (q.1, tr g q.2)
theorem tr_cat (g : GC) (v : Value) : (tr g v).category = v.category := by cases v <;> rfl
def fvs (g : GC) (f : Nat → Int32) : Nat → List (Option Nat) → List Value
  | _, [] => []
  | j, none :: r => .int (f j) :: fvs g f (j + 1) r
  | j, some q :: r => .ref (g.2.1 q) :: fvs g f (j + 1) r
def entA (g : GC) (σ : Sg) (k : Nat) : Nat × Nat → va_E
  | (0, n) => .inl (g.2.2.1 0, n, .inl (σ.1 k))
  | (1, n) => .inl (g.2.2.1 1, n, .inl (σ.1 k))
  | (2, n) => .inl (g.2.2.1 2, n, .inl (σ.1 k))
  | (3, n) => .inl (g.2.2.1 3, n, .inr (.inl (σ.2 k)))
  | (t + 4, n) => .inl (g.2.2.1 4, n, .inr (.inr (.inr (.inr (fun j => if j < n then some (g.2.1 (t + j)) else none)))))
def ent (g : GC) (σ : Sg) (k : Nat) : va_E := match lay k with
  | .inl a => entA g σ k a
  | .inr (ci, fs) => .inr (ci, fvs g (σ.1 k) 0 fs)
def wsOf (g : GC) (σ : Sg) : va_W := (List.range KC).map fun k => (g.2.1 k, ent g σ k)
def tysOf (g : GC) : List (ClassId × FieldType) := [(g.2.2.1 0, .int), (g.2.2.1 1, .boolean), (g.2.2.1 2, .byte), (g.2.2.1 3, .long), (g.2.2.1 4, .array .int)]
def AA (g : GC) : Nat → Prop := fun q => ∃ k : Nat, k < KC ∧ q = g.2.1 k
def Inj (g : GC) : Prop := ∀ i j : Nat, i < KC → j < KC → g.2.1 i = g.2.1 j → i = j
def LISTf (j : Nat) : Value := .int (([1, 2, 4, 5, 6, 10, 12, 60] : List Int32).getD j 0)
def s_len : List Nat := [2, 4, 5, 4, 4, 6]
def s_byt : List (List Int32) := [[111, 110], [115, 105, 103, 110], [115, 111, 117, 110, 100], [119, 111, 114, 100], [110, 97, 109, 101], [116, 111, 110, 103, 117, 101]]
/-- what stands outside the cells and is only read: the class's static table, the String constants, what String.charAt reads -/
def RO (g : GC) (U : State) (H : Heap) : Prop :=
  va_Z "UnreadScript$Accounts" "LIST" "[I" (.ref (g.2.1 KC)) (AA g) U H ∧ va_T .int (g.2.1 KC) 8 LISTf (AA g) U H ∧
  vk_S 6 s_len s_byt (fun i => g.2.1 (KC + 1 + i)) g.2.2.2 (AA g) U H ∧
  (vk_R "UnreadScript$Tape" 42 "on" (g.2.1 (KC + 1)) U ∧ vk_R "UnreadScript$Tape" 52 "sign" (g.2.1 (KC + 2)) U ∧ vk_R "UnreadScript$Tape" 54 "sound" (g.2.1 (KC + 3)) U ∧ vk_R "UnreadScript$Tape" 56 "word" (g.2.1 (KC + 4)) U ∧ vk_R "UnreadScript$Tape" 58 "name" (g.2.1 (KC + 5)) U ∧ vk_R "UnreadScript$Tape" 60 "tongue" (g.2.1 (KC + 6)) U) ∧
  va_Z "java/lang/String" "COMPACT_STRINGS" "Z" (.int 1) (AA g) U H ∧ va_Zq "jdk/internal/util/Preconditions" "SIOOBE_FORMATTER" "Ljava/util/function/BiFunction;" (AA g) U H
theorem RO.same {g : GC} {u U : State} (hv : U.vm = u.vm) (hh : U.heap = u.heap) (h : RO g u u.heap) : RO g U U.heap := by
  obtain ⟨h1, h2, h3, ⟨a1, a2, a3, a4, a5, a6⟩, h4, h5⟩ := h
  have hA : u.vm.Alike U.vm := by rw [hv]; exact Vm.Alike.refl _
  rw [hh]
  refine ⟨h1.moved hA, h2.moved hA, h3.moved hA, ⟨a1.same hv, a2.same hv, a3.same hv, a4.same hv, a5.same hv, a6.same hv⟩, h4.moved hA, ?_⟩
  rcases h5 with h5 | ⟨t, h5⟩
  · exact Or.inl (h5.moved hA)
  · exact Or.inr ⟨t, h5.moved hA⟩
theorem RO.warm {g : GC} {s U : State} {H : Heap} {locs : List Loc} (hW : s.WarmedH U.vm) (hS : va_S (AA g) s.heap H locs) (hU : U.heap = H) (h : RO g s s.heap) : RO g U U.heap := by
  obtain ⟨h1, h2, h3, ⟨a1, a2, a3, a4, a5, a6⟩, h4, h5⟩ := h
  have hA := hW.alike
  rw [hU]
  refine ⟨(h1.moved hA).kept hS.2.1, (h2.moved hA).kept hS.2.1, (h3.moved hA).kept hS.2.1, ⟨a1.warm hW, a2.warm hW, a3.warm hW, a4.warm hW, a5.warm hW, a6.warm hW⟩, (h4.moved hA).kept hS.2.1, ?_⟩
  rcases h5 with h5 | ⟨t, h5⟩
  · exact Or.inl ((h5.moved hA).kept hS.2.1)
  · exact Or.inr ⟨t, (h5.moved hA).kept hS.2.1⟩
/-! the world: its places -/
theorem ws_get {g : GC} {σ : Sg} {k : Nat} (hk : k < KC) : (wsOf g σ)[k]? = some (g.2.1 k, ent g σ k) := by
  unfold wsOf
  rw [List.getElem?_map, List.getElem?_range hk]
  rfl
theorem ws_got {g : GC} {σ : Sg} {k : Nat} {q : Nat × va_E} (h : (wsOf g σ)[k]? = some q) : k < KC ∧ q = (g.2.1 k, ent g σ k) := by
  by_cases hk : k < KC
  · rw [ws_get hk] at h
    exact ⟨hk, (Option.some.inj h).symm⟩
  · unfold wsOf at h
    rw [List.getElem?_map, List.getElem?_eq_none (by rw [List.length_range]; omega)] at h
    cases h
theorem ws_D {g : GC} (hI : Inj g) (σ : Sg) : va_D (AA g) (wsOf g σ) := by
  refine ⟨fun i j p q hi hj h => ?_, fun k q hk => ?_⟩
  · obtain ⟨h1, rfl⟩ := ws_got hi
    obtain ⟨h2, rfl⟩ := ws_got hj
    exact hI i j h1 h2 h
  · obtain ⟨h1, rfl⟩ := ws_got hk
    exact ⟨k, h1, rfl⟩
def u1 (σ : Sg) (k j : Nat) (x : Int32) : Sg := (fun a b => if a = k ∧ b = j then x else σ.1 a b, σ.2)
def u2 (σ : Sg) (k j : Nat) (x : Int64) : Sg := (σ.1, fun a b => if a = k ∧ b = j then x else σ.2 a b)
theorem ent_ne {g : GC} {σ σ' : Sg} {k : Nat} (h1 : σ'.1 k = σ.1 k) (h2 : σ'.2 k = σ.2 k) : ent g σ' k = ent g σ k := by
  unfold ent
  cases lay k with
  | inl a =>
    obtain ⟨t, n⟩ := a
    match t with
    | 0 => simp [entA, h1]
    | 1 => simp [entA, h1]
    | 2 => simp [entA, h1]
    | 3 => simp [entA, h2]
    | t + 4 => simp [entA]
  | inr b =>
    obtain ⟨ci, fs⟩ := b
    simp only [h1]
theorem ws_set {g : GC} {σ σ' : Sg} {k : Nat} {e : va_E} (he : e = ent g σ' k) (h1 : ∀ a, a ≠ k → σ'.1 a = σ.1 a) (h2 : ∀ a, a ≠ k → σ'.2 a = σ.2 a) : (wsOf g σ).set k (g.2.1 k, e) = wsOf g σ' := by
  subst he
  apply List.ext_getElem?
  intro i
  by_cases hi : i < KC
  · rw [ws_get hi]
    by_cases hik : i = k
    · subst hik
      rw [List.getElem?_set_self (by unfold wsOf; rw [List.length_map, List.length_range]; exact hi)]
    · rw [List.getElem?_set_ne (fun h => hik h.symm), ws_get hi, ent_ne (h1 i hik) (h2 i hik)]
  · rw [List.getElem?_eq_none (by rw [List.length_set]; unfold wsOf; rw [List.length_map, List.length_range]; omega), List.getElem?_eq_none (by unfold wsOf; rw [List.length_map, List.length_range]; omega)]
theorem u1_ne {σ : Sg} {k j : Nat} {x : Int32} {a : Nat} (h : a ≠ k) : (u1 σ k j x).1 a = σ.1 a := by
  funext b
  simp [u1, h]
theorem u1_k {σ : Sg} {k j : Nat} {x : Int32} : (u1 σ k j x).1 k = upd (σ.1 k) j x := by
  funext b
  simp [u1, upd]
theorem u2_ne {σ : Sg} {k j : Nat} {x : Int64} {a : Nat} (h : a ≠ k) : (u2 σ k j x).2 a = σ.2 a := by
  funext b
  simp [u2, h]
theorem u2_k {σ : Sg} {k j : Nat} {x : Int64} : (u2 σ k j x).2 k = vp_updL (σ.2 k) j x := by
  funext b
  simp [u2, vp_updL]
theorem fvs_get {g : GC} {f : Nat → Int32} : ∀ (fs : List (Option Nat)) (j0 j : Nat), (fvs g f j0 fs)[j]? = (fs[j]?).map (fun q => match q with | none => .int (f (j0 + j)) | some q => .ref (g.2.1 q)) := by
  intro fs
  induction fs with
  | nil => intro j0 j; simp [fvs]
  | cons a r ih =>
    intro j0 j
    cases a with
    | none =>
      cases j with
      | zero => simp [fvs]
      | succ j => simp only [fvs, List.getElem?_cons_succ]; rw [ih, show j0 + 1 + j = j0 + (j + 1) by omega]
    | some q =>
      cases j with
      | zero => simp [fvs]
      | succ j => simp only [fvs, List.getElem?_cons_succ]; rw [ih, show j0 + 1 + j = j0 + (j + 1) by omega]
theorem fvs_len {g : GC} {f : Nat → Int32} : ∀ (fs : List (Option Nat)) (j0 : Nat), (fvs g f j0 fs).length = fs.length := by
  intro fs
  induction fs with
  | nil => intro j0; rfl
  | cons a r ih => intro j0; cases a <;> simp [fvs, ih]
theorem fvs_set {g : GC} {f : Nat → Int32} {fs : List (Option Nat)} {j : Nat} {x : Int32} (h : fs[j]? = some none) : (fvs g f 0 fs).set j (.int x) = fvs g (upd f j x) 0 fs := by
  apply List.ext_getElem?
  intro i
  have hj : j < fs.length := (List.getElem?_eq_some_iff.mp h).1
  by_cases hij : i = j
  · subst hij
    rw [List.getElem?_set_self (by rw [fvs_len]; exact hj), fvs_get, h]
    simp [upd]
  · rw [List.getElem?_set_ne (fun e => hij e.symm), fvs_get, fvs_get]
    cases fs[i]? with
    | none => rfl
    | some q => cases q <;> simp [upd, hij]
theorem lay_lt {k : Nat} {a : LE} (h : lay k = a) (ha : a ≠ .inl (0, 0)) : k < KC := by
  rcases Nat.lt_or_ge k KC with h1 | h1
  · exact h1
  · exact absurd (by rw [← h]; unfold lay; rw [List.getD_eq_getElem?_getD, List.getElem?_eq_none (by rw [layL_len]; exact h1)]; rfl) ha
theorem trL_at {g : GC} {lv : List (Nat × Value)} {j i : Nat} {v : Value} (h : lv[j]? = some (i, v)) : (trL g lv)[j]? = some (i, tr g v) := by
  unfold trL
  rw [List.getElem?_map, h]
  rfl
def stf (i : Nat) (lv : List (Nat × Value)) : List (Nat × Value) := lv.filter (fun q => !(q.1 == i) && !(q.1 + 1 == i && q.2.category == 2))
def stf2 (i : Nat) (lv : List (Nat × Value)) : List (Nat × Value) := lv.filter (fun q => !(q.1 == i) && (!(q.1 == i + 1) && !(q.1 + 1 == i && q.2.category == 2)))
theorem trL_st {g : GC} {i : Nat} {v : Value} {lv lv' : List (Nat × Value)} (h : (i, v) :: stf i lv = lv') : (i, tr g v) :: (trL g lv).filter (fun q => !(q.1 == i) && !(q.1 + 1 == i && q.2.category == 2)) = trL g lv' := by
  subst h
  unfold trL stf
  rw [List.map_cons, List.filter_map]
  congr 2
  apply List.filter_congr
  intro q _
  simp [tr_cat]
theorem trL_st2 {g : GC} {i : Nat} {v : Value} {lv lv' : List (Nat × Value)} (h : (i, v) :: stf2 i lv = lv') : (i, tr g v) :: (trL g lv).filter (fun q => !(q.1 == i) && (!(q.1 == i + 1) && !(q.1 + 1 == i && q.2.category == 2))) = trL g lv' := by
  subst h
  unfold trL stf2
  rw [List.map_cons, List.filter_map]
  congr 2
  apply List.filter_congr
  intro q _
  simp [tr_cat]
def RM (N : Nat) : Room := { frames := N, cells := 0, slots := 0, locals := 60 * N }
def QcOf (g : GC) (Q : Option Value → Sg → Prop) : Array Value → State → Outcome → State → Prop := fun _ st o t =>
  (∃ (r : Option Value) (σ' : Sg), o = .returned (r.map (tr g)) ∧ Q r σ' ∧ va_P g.1 G_cl (wsOf g σ') t.heap) ∧ va_F (AA g) st t
def PcOf (g : GC) (σ : Sg) (U : State) : Prop := Inj g ∧ va_P g.1 G_cl (wsOf g σ) U.heap ∧ va_K g.1 G_cl (tysOf g) U ∧ RO g U U.heap
/-- a method's contract: from the arguments as and the cells σ it returns, with Q -/
def EvM (N : Nat) (M : MD) (as : List Value) (σ : Sg) (Q : Option Value → Sg → Prop) : Prop :=
  ∀ (l : Launch) (g : GC), Met l M.1 (Cond.code M.1 M.2.1 M.2.2.1 M.2.2.2 :: TB) (RM N) (va_Pc (as.map (tr g)) (PcOf g σ)) (QcOf g Q) 0 0 (AA g)
def CX (M : MD) (g : GC) (p : Program) (s : State) (m : MethodId) (args : Array Value) (meth : Method) (c : Code) : Prop :=
  p.tables.exec = Jvm.exec ∧ c.code = M.2.1 ∧ meth.sig.returnType = M.2.2.2 ∧ c.maxLocals = M.2.2.1 ∧ s.vm.findClass M.1.cls = some m.cls ∧ (∀ w ∈ TB, w.before args s = true) ∧ meth.locks = false ∧ Inj g ∧ va_K g.1 G_cl (tysOf g) s ∧ RO g s s.heap
/-- from pc on, with these locals, this stack and these cells, the method comes to its end, with Q -/
def Ev (N : Nat) (M : MD) (pc : Nat) (lv : List (Nat × Value)) (st : List Value) (σ : Sg) (Q : Option Value → Sg → Prop) : Prop :=
  ∀ (g : GC) (p : Program) (l : Launch) (e : Env) (s : State) (m : MethodId) (args : Array Value) (below : List Frame) (meth : Method) (c : Code) (H : Heap) (locs : List Loc) (ls : Array Slot),
    CX M g p s m args meth c → va_P g.1 G_cl (wsOf g σ) H → va_S (AA g) s.heap H locs → lv_has ls M.2.2.1 (trL g lv) →
    W p l e (RM N) s m args below meth c H locs 0 0 (MQ below (QcOf g Q) args s 0 0 (AA g)) (F0 m pc ls (st.map (tr g)))
section EV
variable {N : Nat} {M : MD} {pc : Nat} {lv lv' : List (Nat × Value)} {st : List Value} {σ : Sg} {Q : Option Value → Sg → Prop}
/-- fewer locals, by their places -/
theorem ev_sub (ks : List Nat) (h : lv_pick lv ks = lv') (kk : Ev N M pc lv' st σ Q) : Ev N M pc lv st σ Q := by
  intro g p l e s m args below meth c H locs ls C hP hS hl
  refine kk g p l e s m args below meth c H locs ls C hP hS (lv_sub hl ks ?_)
  subst h
  unfold lv_pick trL
  rw [List.map_filterMap]
  congr 1
  funext k
  rw [List.getElem?_map]
theorem lv_args_tr (g : GC) : ∀ (as : List Value) (i : Nat), lv_args i (as.map (tr g)) = trL g (lv_args i as) := by
  intro as
  induction as with
  | nil => intro i; simp [lv_args, trL]
  | cons a r ih =>
    intro i
    simp only [List.map_cons, lv_args, tr_cat]
    rw [ih]
    simp [trL]
theorem lg_sl_tr (g : GC) : ∀ (as : List Value), (lg_sl (as.map (tr g))).length = (lg_sl as).length := by
  intro as
  induction as with
  | nil => rfl
  | cons a r ih =>
    simp only [lg_sl, List.map_cons, List.flatMap_cons, List.length_append] at ih ⊢
    rw [ih, tr_cat]
    by_cases h : a.category = 2 <;> simp [h]
theorem ev_entry {as : List Value} (hM : plainName M.1.cls = true) (hn : (lg_sl as).length ≤ M.2.2.1) (hlv : lv_args 0 as = lv) (kk : Ev N M 0 lv [] σ Q) : EvM N M as σ Q := by
  intro l g
  refine Met.ofW (cc := M.2.1) (maxL := M.2.2.1) (ret := M.2.2.2) hM rfl ?_
  intro p e s m args below meth c s₁ B hml hv
  obtain ⟨rfl, hI, hP, hK, hR⟩ := hv
  have hts := atoms_spec (ws := Cond.code M.1 M.2.1 M.2.2.1 M.2.2.2 :: TB) B.pre
  have hl := lv_entry (as.map (tr g)) (n := M.2.2.1) (by rw [lg_sl_tr]; exact hn)
  rw [lv_args_tr, hlv] at hl
  rw [lg_entry_eq]
  exact kk g p l e s m _ below meth c s.heap [] _ ⟨B.exec, B.bytes, B.returns, hml, findClass_of_methodNamed B.named, fun w hw => hts w (List.mem_cons_of_mem _ hw), B.notSynchronized, hI, hK, hR⟩ hP va_S.rf hl

theorem ev_iconst {n : Int} (v : Int32) (hd : decode M.2.1 pc = .ok (.iconst n, 1)) (hv : Int32.ofInt n = v) (kk : Ev N M (pc + 1) lv (.int v :: st) σ Q) : Ev N M pc lv (st) σ Q := by
  intro g p l e s m args below meth c H locs ls C hP hS hl
  exact lv_iconst C.1 C.2.1 hd hv (kk g p l e s m args below meth c H locs ls C hP hS hl)
theorem ev_bipush {n : Int} (v : Int32) (hd : decode M.2.1 pc = .ok (.bipush n, 2)) (hv : (Int8.ofInt n).toInt32 = v) (kk : Ev N M (pc + 2) lv (.int v :: st) σ Q) : Ev N M pc lv (st) σ Q := by
  intro g p l e s m args below meth c H locs ls C hP hS hl
  exact lv_bipush C.1 C.2.1 hd hv (kk g p l e s m args below meth c H locs ls C hP hS hl)
theorem ev_sipush {n : Int} (v : Int32) (hd : decode M.2.1 pc = .ok (.sipush n, 3)) (hv : (Int16.ofInt n).toInt32 = v) (kk : Ev N M (pc + 3) lv (.int v :: st) σ Q) : Ev N M pc lv (st) σ Q := by
  intro g p l e s m args below meth c H locs ls C hP hS hl
  exact lv_sipush C.1 C.2.1 hd hv (kk g p l e s m args below meth c H locs ls C hP hS hl)
theorem ev_lconst {n : Fin 2} (v : Int64) (hd : decode M.2.1 pc = .ok (.lconst n, 1)) (hv : Int64.ofNat (n : Nat) = v) (kk : Ev N M (pc + 1) lv (.long v :: st) σ Q) : Ev N M pc lv (st) σ Q := by
  intro g p l e s m args below meth c H locs ls C hP hS hl
  exact lv_lconst C.1 C.2.1 hd hv (kk g p l e s m args below meth c H locs ls C hP hS hl)
theorem ev_ldc {index : Nat} (v : Int32) (hd : decode M.2.1 pc = .ok (.ldc index, 2)) (hw : Cond.constant M.1.cls index v ∈ TB) (kk : Ev N M (pc + 2) lv (.int v :: st) σ Q) : Ev N M pc lv (st) σ Q := by
  intro g p l e s m args below meth c H locs ls C hP hS hl
  exact lv_ldc C.1 C.2.1 C.2.2.2.2.1 (C.2.2.2.2.2.1 _ hw) hd (kk g p l e s m args below meth c H locs ls C hP hS hl)
theorem ev_ldcw {index : Nat} (v : Int32) (hd : decode M.2.1 pc = .ok (.ldc_w index, 3)) (hw : Cond.constant M.1.cls index v ∈ TB) (kk : Ev N M (pc + 3) lv (.int v :: st) σ Q) : Ev N M pc lv (st) σ Q := by
  intro g p l e s m args below meth c H locs ls C hP hS hl
  exact lv_ldcw C.1 C.2.1 C.2.2.2.2.1 (C.2.2.2.2.2.1 _ hw) hd (kk g p l e s m args below meth c H locs ls C hP hS hl)
theorem ev_ldc2 {index : Nat} (v : Int64) (hd : decode M.2.1 pc = .ok (.ldc2_w index, 3)) (hw : Cond.constantLong M.1.cls index v ∈ TB) (kk : Ev N M (pc + 3) lv (.long v :: st) σ Q) : Ev N M pc lv (st) σ Q := by
  intro g p l e s m args below meth c H locs ls C hP hS hl
  exact lv_ldc2 C.1 C.2.1 C.2.2.2.2.1 (C.2.2.2.2.2.1 _ hw) hd (kk g p l e s m args below meth c H locs ls C hP hS hl)
theorem ev_iload_n {k : Fin 4} {x : Int32} (j : Nat) (hd : decode M.2.1 pc = .ok (.iload_n k, 1)) (hj : lv[j]? = some ((k : Nat), .int x)) (kk : Ev N M (pc + 1) lv (.int x :: st) σ Q) : Ev N M pc lv (st) σ Q := by
  intro g p l e s m args below meth c H locs ls C hP hS hl
  exact lv_iload_n C.1 C.2.1 hd rfl (lv_at hl j (trL_at hj)) (kk g p l e s m args below meth c H locs ls C hP hS hl)
theorem ev_iload {i : Nat} {x : Int32} (j : Nat) (hd : decode M.2.1 pc = .ok (.iload i, 2)) (hj : lv[j]? = some (i, .int x)) (kk : Ev N M (pc + 2) lv (.int x :: st) σ Q) : Ev N M pc lv (st) σ Q := by
  intro g p l e s m args below meth c H locs ls C hP hS hl
  exact lv_iload C.1 C.2.1 hd (lv_at hl j (trL_at hj)) (kk g p l e s m args below meth c H locs ls C hP hS hl)
theorem ev_lload_n {k : Fin 4} {x : Int64} (j : Nat) (hd : decode M.2.1 pc = .ok (.lload_n k, 1)) (hj : lv[j]? = some ((k : Nat), .long x)) (kk : Ev N M (pc + 1) lv (.long x :: st) σ Q) : Ev N M pc lv (st) σ Q := by
  intro g p l e s m args below meth c H locs ls C hP hS hl
  exact lv_lload_n C.1 C.2.1 hd rfl (lv_at hl j (trL_at hj)) (kk g p l e s m args below meth c H locs ls C hP hS hl)
theorem ev_lload {i : Nat} {x : Int64} (j : Nat) (hd : decode M.2.1 pc = .ok (.lload i, 2)) (hj : lv[j]? = some (i, .long x)) (kk : Ev N M (pc + 2) lv (.long x :: st) σ Q) : Ev N M pc lv (st) σ Q := by
  intro g p l e s m args below meth c H locs ls C hP hS hl
  exact lv_lload C.1 C.2.1 hd (lv_at hl j (trL_at hj)) (kk g p l e s m args below meth c H locs ls C hP hS hl)
theorem ev_aload_n {k : Fin 4} {x : Nat} (j : Nat) (hd : decode M.2.1 pc = .ok (.aload_n k, 1)) (hj : lv[j]? = some ((k : Nat), .ref x)) (kk : Ev N M (pc + 1) lv (.ref x :: st) σ Q) : Ev N M pc lv (st) σ Q := by
  intro g p l e s m args below meth c H locs ls C hP hS hl
  exact lv_aload_n C.1 C.2.1 hd rfl (lv_at hl j (trL_at hj)) (kk g p l e s m args below meth c H locs ls C hP hS hl)
theorem ev_aload {i : Nat} {x : Nat} (j : Nat) (hd : decode M.2.1 pc = .ok (.aload i, 2)) (hj : lv[j]? = some (i, .ref x)) (kk : Ev N M (pc + 2) lv (.ref x :: st) σ Q) : Ev N M pc lv (st) σ Q := by
  intro g p l e s m args below meth c H locs ls C hP hS hl
  exact lv_aload C.1 C.2.1 hd (lv_at hl j (trL_at hj)) (kk g p l e s m args below meth c H locs ls C hP hS hl)
theorem ev_istore_n {k : Fin 4} {x : Int32} (hd : decode M.2.1 pc = .ok (.istore_n k, 1)) (hn : (k : Nat) < M.2.2.1) (hv : ((k : Nat), Value.int x) :: stf (k : Nat) lv = lv') (kk : Ev N M (pc + 1) lv' st σ Q) : Ev N M pc lv (.int x :: st) σ Q := by
  intro g p l e s m args below meth c H locs ls C hP hS hl
  exact lv_istore_n C.1 C.2.1 hd rfl hl hn (trL_st hv) (fun ls' hl' => kk g p l e s m args below meth c H locs ls' C hP hS hl')
theorem ev_istore {i : Nat} {x : Int32} (hd : decode M.2.1 pc = .ok (.istore i, 2)) (hn : i < M.2.2.1) (hv : (i, Value.int x) :: stf i lv = lv') (kk : Ev N M (pc + 2) lv' st σ Q) : Ev N M pc lv (.int x :: st) σ Q := by
  intro g p l e s m args below meth c H locs ls C hP hS hl
  exact lv_istore C.1 C.2.1 hd hl hn (trL_st hv) (fun ls' hl' => kk g p l e s m args below meth c H locs ls' C hP hS hl')
theorem ev_lstore_n {k : Fin 4} {x : Int64} (hd : decode M.2.1 pc = .ok (.lstore_n k, 1)) (hn : (k : Nat) + 1 < M.2.2.1) (hv : ((k : Nat), Value.long x) :: stf2 (k : Nat) lv = lv') (kk : Ev N M (pc + 1) lv' st σ Q) : Ev N M pc lv (.long x :: st) σ Q := by
  intro g p l e s m args below meth c H locs ls C hP hS hl
  exact lv_lstore_n C.1 C.2.1 hd rfl hl hn (trL_st2 hv) (fun ls' hl' => kk g p l e s m args below meth c H locs ls' C hP hS hl')
theorem ev_lstore {i : Nat} {x : Int64} (hd : decode M.2.1 pc = .ok (.lstore i, 2)) (hn : i + 1 < M.2.2.1) (hv : (i, Value.long x) :: stf2 i lv = lv') (kk : Ev N M (pc + 2) lv' st σ Q) : Ev N M pc lv (.long x :: st) σ Q := by
  intro g p l e s m args below meth c H locs ls C hP hS hl
  exact lv_lstore C.1 C.2.1 hd hl hn (trL_st2 hv) (fun ls' hl' => kk g p l e s m args below meth c H locs ls' C hP hS hl')
theorem ev_astore_n {k : Fin 4} {x : Nat} (hd : decode M.2.1 pc = .ok (.astore_n k, 1)) (hn : (k : Nat) < M.2.2.1) (hv : ((k : Nat), Value.ref x) :: stf (k : Nat) lv = lv') (kk : Ev N M (pc + 1) lv' st σ Q) : Ev N M pc lv (.ref x :: st) σ Q := by
  intro g p l e s m args below meth c H locs ls C hP hS hl
  exact lv_astore_n C.1 C.2.1 hd rfl hl hn (trL_st hv) (fun ls' hl' => kk g p l e s m args below meth c H locs ls' C hP hS hl')
theorem ev_astore {i : Nat} {x : Nat} (hd : decode M.2.1 pc = .ok (.astore i, 2)) (hn : i < M.2.2.1) (hv : (i, Value.ref x) :: stf i lv = lv') (kk : Ev N M (pc + 2) lv' st σ Q) : Ev N M pc lv (.ref x :: st) σ Q := by
  intro g p l e s m args below meth c H locs ls C hP hS hl
  exact lv_astore C.1 C.2.1 hd hl hn (trL_st hv) (fun ls' hl' => kk g p l e s m args below meth c H locs ls' C hP hS hl')
theorem ev_iinc {i : Nat} {n : Int} {x : Int32} (v : Int32) (j : Nat) (hd : decode M.2.1 pc = .ok (.iinc i n, 3)) (hj : lv[j]? = some (i, .int x)) (hx : x + Int32.ofInt n = v) (hn : i < M.2.2.1) (hv : (i, Value.int v) :: stf i lv = lv') (kk : Ev N M (pc + 3) lv' st σ Q) : Ev N M pc lv (st) σ Q := by
  intro g p l e s m args below meth c H locs ls C hP hS hl
  exact lv_iinc C.1 C.2.1 hd hl (trL_at hj) hx hn (trL_st hv) (fun ls' hl' => kk g p l e s m args below meth c H locs ls' C hP hS hl')
theorem ev_iadd {x y : Int32} (hd : decode M.2.1 pc = .ok (.iadd, 1)) (kk : Ev N M (pc + 1) lv (.int (x + y) :: st) σ Q) : Ev N M pc lv (.int y :: .int x :: st) σ Q := by
  intro g p l e s m args below meth c H locs ls C hP hS hl
  exact lv_iadd C.1 C.2.1 hd (kk g p l e s m args below meth c H locs ls C hP hS hl)
theorem ev_isub {x y : Int32} (hd : decode M.2.1 pc = .ok (.isub, 1)) (kk : Ev N M (pc + 1) lv (.int (x - y) :: st) σ Q) : Ev N M pc lv (.int y :: .int x :: st) σ Q := by
  intro g p l e s m args below meth c H locs ls C hP hS hl
  exact lv_isub C.1 C.2.1 hd (kk g p l e s m args below meth c H locs ls C hP hS hl)
theorem ev_imul {x y : Int32} (hd : decode M.2.1 pc = .ok (.imul, 1)) (kk : Ev N M (pc + 1) lv (.int (x * y) :: st) σ Q) : Ev N M pc lv (.int y :: .int x :: st) σ Q := by
  intro g p l e s m args below meth c H locs ls C hP hS hl
  exact lv_imul C.1 C.2.1 hd (kk g p l e s m args below meth c H locs ls C hP hS hl)
theorem ev_iand {x y : Int32} (hd : decode M.2.1 pc = .ok (.iand, 1)) (kk : Ev N M (pc + 1) lv (.int (x &&& y) :: st) σ Q) : Ev N M pc lv (.int y :: .int x :: st) σ Q := by
  intro g p l e s m args below meth c H locs ls C hP hS hl
  exact lv_iand C.1 C.2.1 hd (kk g p l e s m args below meth c H locs ls C hP hS hl)
theorem ev_ior {x y : Int32} (hd : decode M.2.1 pc = .ok (.ior, 1)) (kk : Ev N M (pc + 1) lv (.int (x ||| y) :: st) σ Q) : Ev N M pc lv (.int y :: .int x :: st) σ Q := by
  intro g p l e s m args below meth c H locs ls C hP hS hl
  exact lv_ior C.1 C.2.1 hd (kk g p l e s m args below meth c H locs ls C hP hS hl)
theorem ev_ixor {x y : Int32} (hd : decode M.2.1 pc = .ok (.ixor, 1)) (kk : Ev N M (pc + 1) lv (.int (x ^^^ y) :: st) σ Q) : Ev N M pc lv (.int y :: .int x :: st) σ Q := by
  intro g p l e s m args below meth c H locs ls C hP hS hl
  exact lv_ixor C.1 C.2.1 hd (kk g p l e s m args below meth c H locs ls C hP hS hl)
theorem ev_ishl {x y : Int32} (hd : decode M.2.1 pc = .ok (.ishl, 1)) (kk : Ev N M (pc + 1) lv (.int (x <<< (y &&& 31)) :: st) σ Q) : Ev N M pc lv (.int y :: .int x :: st) σ Q := by
  intro g p l e s m args below meth c H locs ls C hP hS hl
  exact lv_ishl C.1 C.2.1 hd (kk g p l e s m args below meth c H locs ls C hP hS hl)
theorem ev_ishr {x y : Int32} (hd : decode M.2.1 pc = .ok (.ishr, 1)) (kk : Ev N M (pc + 1) lv (.int (x >>> (y &&& 31)) :: st) σ Q) : Ev N M pc lv (.int y :: .int x :: st) σ Q := by
  intro g p l e s m args below meth c H locs ls C hP hS hl
  exact lv_ishr C.1 C.2.1 hd (kk g p l e s m args below meth c H locs ls C hP hS hl)
theorem ev_iushr {x y : Int32} (hd : decode M.2.1 pc = .ok (.iushr, 1)) (kk : Ev N M (pc + 1) lv (.int ((x.toUInt32 >>> (y.toUInt32 &&& Int32.toUInt32 31)).toInt32) :: st) σ Q) : Ev N M pc lv (.int y :: .int x :: st) σ Q := by
  intro g p l e s m args below meth c H locs ls C hP hS hl
  exact lv_iushr C.1 C.2.1 hd rfl (kk g p l e s m args below meth c H locs ls C hP hS hl)
theorem ev_ladd {x y : Int64} (hd : decode M.2.1 pc = .ok (.ladd, 1)) (kk : Ev N M (pc + 1) lv (.long (x + y) :: st) σ Q) : Ev N M pc lv (.long y :: .long x :: st) σ Q := by
  intro g p l e s m args below meth c H locs ls C hP hS hl
  exact lv_ladd C.1 C.2.1 hd (kk g p l e s m args below meth c H locs ls C hP hS hl)
theorem ev_lsub {x y : Int64} (hd : decode M.2.1 pc = .ok (.lsub, 1)) (kk : Ev N M (pc + 1) lv (.long (x - y) :: st) σ Q) : Ev N M pc lv (.long y :: .long x :: st) σ Q := by
  intro g p l e s m args below meth c H locs ls C hP hS hl
  exact lv_lsub C.1 C.2.1 hd (kk g p l e s m args below meth c H locs ls C hP hS hl)
theorem ev_lmul {x y : Int64} (hd : decode M.2.1 pc = .ok (.lmul, 1)) (kk : Ev N M (pc + 1) lv (.long (x * y) :: st) σ Q) : Ev N M pc lv (.long y :: .long x :: st) σ Q := by
  intro g p l e s m args below meth c H locs ls C hP hS hl
  exact lv_lmul C.1 C.2.1 hd (kk g p l e s m args below meth c H locs ls C hP hS hl)
theorem ev_land {x y : Int64} (hd : decode M.2.1 pc = .ok (.land, 1)) (kk : Ev N M (pc + 1) lv (.long (x &&& y) :: st) σ Q) : Ev N M pc lv (.long y :: .long x :: st) σ Q := by
  intro g p l e s m args below meth c H locs ls C hP hS hl
  exact lv_land C.1 C.2.1 hd (kk g p l e s m args below meth c H locs ls C hP hS hl)
theorem ev_lor {x y : Int64} (hd : decode M.2.1 pc = .ok (.lor, 1)) (kk : Ev N M (pc + 1) lv (.long (x ||| y) :: st) σ Q) : Ev N M pc lv (.long y :: .long x :: st) σ Q := by
  intro g p l e s m args below meth c H locs ls C hP hS hl
  exact lv_lor C.1 C.2.1 hd (kk g p l e s m args below meth c H locs ls C hP hS hl)
theorem ev_ldiv {x y : Int64} (hd : decode M.2.1 pc = .ok (.ldiv, 1)) (hne : ¬ y = 0) (kk : Ev N M (pc + 1) lv (.long (x / y) :: st) σ Q) : Ev N M pc lv (.long y :: .long x :: st) σ Q := by
  intro g p l e s m args below meth c H locs ls C hP hS hl
  exact lv_ldiv C.1 C.2.1 hd hne (kk g p l e s m args below meth c H locs ls C hP hS hl)
theorem ev_lrem {x y : Int64} (hd : decode M.2.1 pc = .ok (.lrem, 1)) (hne : ¬ y = 0) (kk : Ev N M (pc + 1) lv (.long (x - x / y * y) :: st) σ Q) : Ev N M pc lv (.long y :: .long x :: st) σ Q := by
  intro g p l e s m args below meth c H locs ls C hP hS hl
  exact lv_lrem C.1 C.2.1 hd hne (kk g p l e s m args below meth c H locs ls C hP hS hl)
theorem ev_lshl {x : Int64} {y : Int32} (hd : decode M.2.1 pc = .ok (.lshl, 1)) (kk : Ev N M (pc + 1) lv (.long (x <<< (y.toInt64 &&& 63)) :: st) σ Q) : Ev N M pc lv (.int y :: .long x :: st) σ Q := by
  intro g p l e s m args below meth c H locs ls C hP hS hl
  exact lv_lshl C.1 C.2.1 hd rfl (kk g p l e s m args below meth c H locs ls C hP hS hl)
theorem ev_lshr {x : Int64} {y : Int32} (hd : decode M.2.1 pc = .ok (.lshr, 1)) (kk : Ev N M (pc + 1) lv (.long (x >>> (y.toInt64 &&& 63)) :: st) σ Q) : Ev N M pc lv (.int y :: .long x :: st) σ Q := by
  intro g p l e s m args below meth c H locs ls C hP hS hl
  exact lv_lshr C.1 C.2.1 hd rfl (kk g p l e s m args below meth c H locs ls C hP hS hl)
theorem ev_lcmp {x y : Int64} (hd : decode M.2.1 pc = .ok (.lcmp, 1)) (kk : Ev N M (pc + 1) lv (.int (lg_cmp x y) :: st) σ Q) : Ev N M pc lv (.long y :: .long x :: st) σ Q := by
  intro g p l e s m args below meth c H locs ls C hP hS hl
  exact W.lcmp C.1 C.2.1 hd (kk g p l e s m args below meth c H locs ls C hP hS hl)
theorem ev_i2l {x : Int32} (hd : decode M.2.1 pc = .ok (.i2l, 1)) (kk : Ev N M (pc + 1) lv (.long x.toInt64 :: st) σ Q) : Ev N M pc lv (.int x :: st) σ Q := by
  intro g p l e s m args below meth c H locs ls C hP hS hl
  exact lv_i2l C.1 C.2.1 hd rfl (kk g p l e s m args below meth c H locs ls C hP hS hl)
theorem ev_l2i {x : Int64} (hd : decode M.2.1 pc = .ok (.l2i, 1)) (kk : Ev N M (pc + 1) lv (.int x.toInt32 :: st) σ Q) : Ev N M pc lv (.long x :: st) σ Q := by
  intro g p l e s m args below meth c H locs ls C hP hS hl
  exact lv_l2i C.1 C.2.1 hd rfl (kk g p l e s m args below meth c H locs ls C hP hS hl)
theorem ev_i2b {x : Int32} (hd : decode M.2.1 pc = .ok (.i2b, 1)) (kk : Ev N M (pc + 1) lv (.int x.toInt8.toInt32 :: st) σ Q) : Ev N M pc lv (.int x :: st) σ Q := by
  intro g p l e s m args below meth c H locs ls C hP hS hl
  exact lv_i2b C.1 C.2.1 hd rfl (kk g p l e s m args below meth c H locs ls C hP hS hl)
theorem ev_i2s {x : Int32} (hd : decode M.2.1 pc = .ok (.i2s, 1)) (kk : Ev N M (pc + 1) lv (.int x.toInt16.toInt32 :: st) σ Q) : Ev N M pc lv (.int x :: st) σ Q := by
  intro g p l e s m args below meth c H locs ls C hP hS hl
  exact lv_i2s C.1 C.2.1 hd rfl (kk g p l e s m args below meth c H locs ls C hP hS hl)
theorem ev_dup {v : Value} (hd : decode M.2.1 pc = .ok (.dup, 1)) (hc : v.category = 1) (kk : Ev N M (pc + 1) lv (v :: v :: st) σ Q) : Ev N M pc lv (v :: st) σ Q := by
  intro g p l e s m args below meth c H locs ls C hP hS hl
  exact lv_dup C.1 C.2.1 hd ((tr_cat g _).trans hc) (kk g p l e s m args below meth c H locs ls C hP hS hl)
theorem ev_pop {v : Value} (hd : decode M.2.1 pc = .ok (.pop, 1)) (hc : v.category = 1) (kk : Ev N M (pc + 1) lv (st) σ Q) : Ev N M pc lv (v :: st) σ Q := by
  intro g p l e s m args below meth c H locs ls C hP hS hl
  exact lv_pop C.1 C.2.1 hd ((tr_cat g _).trans hc) (kk g p l e s m args below meth c H locs ls C hP hS hl)
theorem ev_dup2 {v w : Value} (hd : decode M.2.1 pc = .ok (.dup2, 1)) (hc : v.category = 1) (hc2 : w.category = 1) (kk : Ev N M (pc + 1) lv (v :: w :: v :: w :: st) σ Q) : Ev N M pc lv (v :: w :: st) σ Q := by
  intro g p l e s m args below meth c H locs ls C hP hS hl
  exact lv_dup2_11 C.1 C.2.1 hd ((tr_cat g _).trans hc) ((tr_cat g _).trans hc2) (kk g p l e s m args below meth c H locs ls C hP hS hl)
theorem ev_if_eq {x : Int32} {off : Int} (tgt : Nat) (hd : decode M.2.1 pc = .ok (.ifCond .eq off, 3)) (ht : (pc : Int) + off = (tgt : Int)) (kt : x = 0 → Ev N M tgt lv st σ Q) (kf : ¬ x = 0 → Ev N M (pc + 3) lv st σ Q) : Ev N M pc lv (.int x :: st) σ Q := by
  intro g p l e s m args below meth c H locs ls C hP hS hl
  exact lv_if_eq C.1 C.2.1 hd ht (fun h9 => kt h9 g p l e s m args below meth c H locs ls C hP hS hl) (fun h9 => kf h9 g p l e s m args below meth c H locs ls C hP hS hl)
theorem ev_icmp_eq {x y : Int32} {off : Int} (tgt : Nat) (hd : decode M.2.1 pc = .ok (.if_icmp .eq off, 3)) (ht : (pc : Int) + off = (tgt : Int)) (kt : x = y → Ev N M tgt lv st σ Q) (kf : ¬ x = y → Ev N M (pc + 3) lv st σ Q) : Ev N M pc lv (.int y :: .int x :: st) σ Q := by
  intro g p l e s m args below meth c H locs ls C hP hS hl
  exact lv_icmp_eq C.1 C.2.1 hd ht (fun h9 => kt h9 g p l e s m args below meth c H locs ls C hP hS hl) (fun h9 => kf h9 g p l e s m args below meth c H locs ls C hP hS hl)
theorem ev_if_ne {x : Int32} {off : Int} (tgt : Nat) (hd : decode M.2.1 pc = .ok (.ifCond .ne off, 3)) (ht : (pc : Int) + off = (tgt : Int)) (kt : ¬ x = 0 → Ev N M tgt lv st σ Q) (kf : x = 0 → Ev N M (pc + 3) lv st σ Q) : Ev N M pc lv (.int x :: st) σ Q := by
  intro g p l e s m args below meth c H locs ls C hP hS hl
  exact lv_if_ne C.1 C.2.1 hd ht (fun h9 => kt h9 g p l e s m args below meth c H locs ls C hP hS hl) (fun h9 => kf h9 g p l e s m args below meth c H locs ls C hP hS hl)
theorem ev_icmp_ne {x y : Int32} {off : Int} (tgt : Nat) (hd : decode M.2.1 pc = .ok (.if_icmp .ne off, 3)) (ht : (pc : Int) + off = (tgt : Int)) (kt : ¬ x = y → Ev N M tgt lv st σ Q) (kf : x = y → Ev N M (pc + 3) lv st σ Q) : Ev N M pc lv (.int y :: .int x :: st) σ Q := by
  intro g p l e s m args below meth c H locs ls C hP hS hl
  exact lv_icmp_ne C.1 C.2.1 hd ht (fun h9 => kt h9 g p l e s m args below meth c H locs ls C hP hS hl) (fun h9 => kf h9 g p l e s m args below meth c H locs ls C hP hS hl)
theorem ev_if_lt {x : Int32} {off : Int} (tgt : Nat) (hd : decode M.2.1 pc = .ok (.ifCond .lt off, 3)) (ht : (pc : Int) + off = (tgt : Int)) (kt : x < 0 → Ev N M tgt lv st σ Q) (kf : ¬ x < 0 → Ev N M (pc + 3) lv st σ Q) : Ev N M pc lv (.int x :: st) σ Q := by
  intro g p l e s m args below meth c H locs ls C hP hS hl
  exact lv_if_lt C.1 C.2.1 hd ht (fun h9 => kt h9 g p l e s m args below meth c H locs ls C hP hS hl) (fun h9 => kf h9 g p l e s m args below meth c H locs ls C hP hS hl)
theorem ev_icmp_lt {x y : Int32} {off : Int} (tgt : Nat) (hd : decode M.2.1 pc = .ok (.if_icmp .lt off, 3)) (ht : (pc : Int) + off = (tgt : Int)) (kt : x < y → Ev N M tgt lv st σ Q) (kf : ¬ x < y → Ev N M (pc + 3) lv st σ Q) : Ev N M pc lv (.int y :: .int x :: st) σ Q := by
  intro g p l e s m args below meth c H locs ls C hP hS hl
  exact lv_icmp_lt C.1 C.2.1 hd ht (fun h9 => kt h9 g p l e s m args below meth c H locs ls C hP hS hl) (fun h9 => kf h9 g p l e s m args below meth c H locs ls C hP hS hl)
theorem ev_if_ge {x : Int32} {off : Int} (tgt : Nat) (hd : decode M.2.1 pc = .ok (.ifCond .ge off, 3)) (ht : (pc : Int) + off = (tgt : Int)) (kt : 0 ≤ x → Ev N M tgt lv st σ Q) (kf : ¬ 0 ≤ x → Ev N M (pc + 3) lv st σ Q) : Ev N M pc lv (.int x :: st) σ Q := by
  intro g p l e s m args below meth c H locs ls C hP hS hl
  exact lv_if_ge C.1 C.2.1 hd ht (fun h9 => kt h9 g p l e s m args below meth c H locs ls C hP hS hl) (fun h9 => kf h9 g p l e s m args below meth c H locs ls C hP hS hl)
theorem ev_icmp_ge {x y : Int32} {off : Int} (tgt : Nat) (hd : decode M.2.1 pc = .ok (.if_icmp .ge off, 3)) (ht : (pc : Int) + off = (tgt : Int)) (kt : y ≤ x → Ev N M tgt lv st σ Q) (kf : ¬ y ≤ x → Ev N M (pc + 3) lv st σ Q) : Ev N M pc lv (.int y :: .int x :: st) σ Q := by
  intro g p l e s m args below meth c H locs ls C hP hS hl
  exact lv_icmp_ge C.1 C.2.1 hd ht (fun h9 => kt h9 g p l e s m args below meth c H locs ls C hP hS hl) (fun h9 => kf h9 g p l e s m args below meth c H locs ls C hP hS hl)
theorem ev_if_gt {x : Int32} {off : Int} (tgt : Nat) (hd : decode M.2.1 pc = .ok (.ifCond .gt off, 3)) (ht : (pc : Int) + off = (tgt : Int)) (kt : 0 < x → Ev N M tgt lv st σ Q) (kf : ¬ 0 < x → Ev N M (pc + 3) lv st σ Q) : Ev N M pc lv (.int x :: st) σ Q := by
  intro g p l e s m args below meth c H locs ls C hP hS hl
  exact lv_if_gt C.1 C.2.1 hd ht (fun h9 => kt h9 g p l e s m args below meth c H locs ls C hP hS hl) (fun h9 => kf h9 g p l e s m args below meth c H locs ls C hP hS hl)
theorem ev_icmp_gt {x y : Int32} {off : Int} (tgt : Nat) (hd : decode M.2.1 pc = .ok (.if_icmp .gt off, 3)) (ht : (pc : Int) + off = (tgt : Int)) (kt : y < x → Ev N M tgt lv st σ Q) (kf : ¬ y < x → Ev N M (pc + 3) lv st σ Q) : Ev N M pc lv (.int y :: .int x :: st) σ Q := by
  intro g p l e s m args below meth c H locs ls C hP hS hl
  exact lv_icmp_gt C.1 C.2.1 hd ht (fun h9 => kt h9 g p l e s m args below meth c H locs ls C hP hS hl) (fun h9 => kf h9 g p l e s m args below meth c H locs ls C hP hS hl)
theorem ev_if_le {x : Int32} {off : Int} (tgt : Nat) (hd : decode M.2.1 pc = .ok (.ifCond .le off, 3)) (ht : (pc : Int) + off = (tgt : Int)) (kt : x ≤ 0 → Ev N M tgt lv st σ Q) (kf : ¬ x ≤ 0 → Ev N M (pc + 3) lv st σ Q) : Ev N M pc lv (.int x :: st) σ Q := by
  intro g p l e s m args below meth c H locs ls C hP hS hl
  exact lv_if_le C.1 C.2.1 hd ht (fun h9 => kt h9 g p l e s m args below meth c H locs ls C hP hS hl) (fun h9 => kf h9 g p l e s m args below meth c H locs ls C hP hS hl)
theorem ev_icmp_le {x y : Int32} {off : Int} (tgt : Nat) (hd : decode M.2.1 pc = .ok (.if_icmp .le off, 3)) (ht : (pc : Int) + off = (tgt : Int)) (kt : x ≤ y → Ev N M tgt lv st σ Q) (kf : ¬ x ≤ y → Ev N M (pc + 3) lv st σ Q) : Ev N M pc lv (.int y :: .int x :: st) σ Q := by
  intro g p l e s m args below meth c H locs ls C hP hS hl
  exact lv_icmp_le C.1 C.2.1 hd ht (fun h9 => kt h9 g p l e s m args below meth c H locs ls C hP hS hl) (fun h9 => kf h9 g p l e s m args below meth c H locs ls C hP hS hl)
theorem ev_goto {off : Int} (tgt : Nat) (hd : decode M.2.1 pc = .ok (.goto off, 3)) (ht : (pc : Int) + off = (tgt : Int)) (kk : Ev N M tgt lv st σ Q) : Ev N M pc lv st σ Q := by
  intro g p l e s m args below meth c H locs ls C hP hS hl
  exact lv_goto C.1 C.2.1 hd ht (kk g p l e s m args below meth c H locs ls C hP hS hl)
theorem ev_tableIn {dflt lo hi : Int} {offs : Array Int} {len : Nat} {x off} (v : Int32) (tgt : Nat) (hd : decode M.2.1 pc = .ok (.tableswitch dflt lo hi offs, len)) (hx : x = v) (h1 : ¬ v.toInt < lo) (h2 : ¬ hi < v.toInt) (ho : offs[(v.toInt - lo).toNat]? = some off) (ht : (pc : Int) + off = (tgt : Int)) (kk : Ev N M tgt lv st σ Q) : Ev N M pc lv (.int x :: st) σ Q := by
  subst hx
  intro g p l e s m args below meth c H locs ls C hP hS hl
  exact lv_tableIn C.1 C.2.1 hd h1 h2 ho ht (kk g p l e s m args below meth c H locs ls C hP hS hl)
theorem ev_tableOut {dflt lo hi : Int} {offs : Array Int} {len : Nat} {x : Int32} (tgt : Nat) (hd : decode M.2.1 pc = .ok (.tableswitch dflt lo hi offs, len)) (h : x.toInt < lo ∨ hi < x.toInt) (ht : (pc : Int) + dflt = (tgt : Int)) (kk : Ev N M tgt lv st σ Q) : Ev N M pc lv (.int x :: st) σ Q := by
  intro g p l e s m args below meth c H locs ls C hP hS hl
  exact lv_tableOut C.1 C.2.1 hd h ht (kk g p l e s m args below meth c H locs ls C hP hS hl)
theorem ev_lookup {dflt : Int} {ps : Array (Int × Int)} {len : Nat} {x : Int32} {off : Int} (tgt : Nat) (hd : decode M.2.1 pc = .ok (.lookupswitch dflt ps, len)) (hp : (ps.toList.zip (ps.toList.drop 1)).all (fun (a, next) => a.1 < next.1) = true) (ho : Op.lookupswitch.offset ps.toList dflt x.toInt = off) (ht : (pc : Int) + off = (tgt : Int)) (kk : Ev N M tgt lv st σ Q) : Ev N M pc lv (.int x :: st) σ Q := by
  intro g p l e s m args below meth c H locs ls C hP hS hl
  exact lv_lookup C.1 C.2.1 hd hp ho ht (kk g p l e s m args below meth c H locs ls C hP hS hl)

theorem ent_obj {g : GC} {σ : Sg} {k ci : Nat} {fs : List (Option Nat)} (h : lay k = .inr (ci, fs)) : (wsOf g σ)[k]? = some (g.2.1 k, .inr (ci, fvs g (σ.1 k) 0 fs)) := by
  rw [ws_get (lay_lt h (by intro q; cases q))]
  unfold ent
  rw [h]
/-- a class's facts: its number among G_cl, its name, its fields -/
def GF (ci : Nat) (C : String) (T : u_T) (n : Nat) (ty : Nat → FieldType) : Prop := G_cl[ci]? = some (C, T, n) ∧ (∀ w ∈ u_ws C T n, w ∈ TB) ∧ (∀ k, k < n → parseFieldDescriptor (T k).2.2.1 = some (ty k)) ∧ (∀ a, a < n → ∀ b, b < n → a ≠ b → (T a).2.1 ≠ (T b).2.1)
theorem ev_getR {C : String} {T : u_T} {n ci index q : Nat} {ty : Nat → FieldType} {k r : Nat} {fs : List (Option Nat)} (G : GF ci C T n ty) (hy : lay q = .inr (ci, fs)) (hf : fs[k]? = some (some r)) (hk : k < n) (hd : decode M.2.1 pc = .ok (.getfield index, 3)) (hw : Cond.fieldLink M.1.cls index (T k).1 (T k).2.1 (T k).2.2.1 ∈ TB) (kk : Ev N M (pc + 3) lv (.ref r :: st) σ Q) : Ev N M pc lv (.ref q :: st) σ Q := by
  intro g p l e s m args below meth c H locs ls C hP hS hl
  exact va_get C.1 C.2.1 C.2.2.2.2.2.1 G.2.1 C.2.2.2.2.1 C.2.2.2.2.2.2.2.2.1 hP q (ent_obj hy) G.1 k hk (C.2.2.2.2.2.1 _ hw) (fun _ h => h) (v := .ref (g.2.1 r)) (by rw [fvs_get, hf]; rfl) hd (kk g p l e s m args below meth c H locs ls C hP hS hl)
theorem ev_get {C : String} {T : u_T} {n ci index q : Nat} {ty : Nat → FieldType} {k : Nat} {fs : List (Option Nat)} (G : GF ci C T n ty) (hy : lay q = .inr (ci, fs)) (hf : fs[k]? = some none) (hk : k < n) (hd : decode M.2.1 pc = .ok (.getfield index, 3)) (hw : Cond.fieldLink M.1.cls index (T k).1 (T k).2.1 (T k).2.2.1 ∈ TB) (kk : Ev N M (pc + 3) lv (.int (σ.1 q k) :: st) σ Q) : Ev N M pc lv (.ref q :: st) σ Q := by
  intro g p l e s m args below meth c H locs ls C hP hS hl
  exact va_get C.1 C.2.1 C.2.2.2.2.2.1 G.2.1 C.2.2.2.2.1 C.2.2.2.2.2.2.2.2.1 hP q (ent_obj hy) G.1 k hk (C.2.2.2.2.2.1 _ hw) (fun _ h => h) (v := .int (σ.1 q k)) (by rw [fvs_get, hf]; simp) hd (kk g p l e s m args below meth c H locs ls C hP hS hl)
theorem ev_put {C : String} {T : u_T} {n ci index q : Nat} {ty : Nat → FieldType} {k : Nat} {fs : List (Option Nat)} {x : Int32} (G : GF ci C T n ty) (hy : lay q = .inr (ci, fs)) (hf : fs[k]? = some none) (hk : k < n) (hfin : (T k).2.2.2 = false) (hty : parseFieldDescriptor (T k).2.2.1 = some .int) (hd : decode M.2.1 pc = .ok (.putfield index, 3)) (hw : Cond.fieldLink M.1.cls index (T k).1 (T k).2.1 (T k).2.2.1 ∈ TB) (kk : Ev N M (pc + 3) lv st (u1 σ q k x) Q) : Ev N M pc lv (.int x :: .ref q :: st) σ Q := by
  intro g p l e s m args below meth c H locs ls C hP hS hl
  refine va_put C.1 C.2.1 C.2.2.2.2.2.1 G.2.1 ty G.2.2.1 G.2.2.2 C.2.2.2.2.1 C.2.2.2.2.2.2.2.2.1 hP (ws_D C.2.2.2.2.2.2.2.1 σ) hS q (ent_obj hy) G.1 k hk (C.2.2.2.2.2.1 _ hw) (fun _ h => h) hfin (v := .int x) hty rfl rfl (by rw [fvs_len]; exact (List.getElem?_eq_some_iff.mp hf).1) hd (fun H1 locs1 hP1 _ hS1 => kk g p l e s m args below meth c H1 locs1 ls C ?_ hS1 hl)
  rw [fvs_set hf, ws_set (σ' := u1 σ q k x) (by unfold ent; rw [hy, u1_k]) (fun a h => u1_ne h) (fun _ _ => rfl)] at hP1
  exact hP1
theorem ent_arr {g : GC} {σ : Sg} {k t n : Nat} (h : lay k = .inl (t, n)) (hk : k < KC) : (wsOf g σ)[k]? = some (g.2.1 k, entA g σ k (t, n)) := by
  rw [ws_get hk]
  unfold ent
  rw [h]

theorem ev_iald {q n : Nat} {i : Int32} (hy : lay q = .inl (0, n)) (hq : q < KC) (hi : vp_in i n) (hd : decode M.2.1 pc = .ok (.iaload, 1)) (kk : Ev N M (pc + 1) lv (.int (σ.1 q i.toNatClampNeg) :: st) σ Q) : Ev N M pc lv (.int i :: .ref q :: st) σ Q := by
  intro g p l e s m args below meth c H locs ls C hP hS hl
  exact va_iald C.1 C.2.1 C.2.2.2.2.2.2.2.2.1 hP q 0 (ent_arr hy hq) rfl hi hd (kk g p l e s m args below meth c H locs ls C hP hS hl)
theorem ev_zald {q n : Nat} {i : Int32} (hy : lay q = .inl (1, n)) (hq : q < KC) (hi : vp_in i n) (hd : decode M.2.1 pc = .ok (.baload, 1)) (kk : Ev N M (pc + 1) lv (.int (σ.1 q i.toNatClampNeg) :: st) σ Q) : Ev N M pc lv (.int i :: .ref q :: st) σ Q := by
  intro g p l e s m args below meth c H locs ls C hP hS hl
  exact va_zald C.1 C.2.1 C.2.2.2.2.2.2.2.2.1 hP q 1 (ent_arr hy hq) rfl hi hd (kk g p l e s m args below meth c H locs ls C hP hS hl)
theorem ev_bald {q n : Nat} {i : Int32} (hy : lay q = .inl (2, n)) (hq : q < KC) (hi : vp_in i n) (hd : decode M.2.1 pc = .ok (.baload, 1)) (kk : Ev N M (pc + 1) lv (.int (σ.1 q i.toNatClampNeg) :: st) σ Q) : Ev N M pc lv (.int i :: .ref q :: st) σ Q := by
  intro g p l e s m args below meth c H locs ls C hP hS hl
  exact va_bald C.1 C.2.1 C.2.2.2.2.2.2.2.2.1 hP q 2 (ent_arr hy hq) rfl hi hd (kk g p l e s m args below meth c H locs ls C hP hS hl)
theorem ev_lald {q n : Nat} {i : Int32} (hy : lay q = .inl (3, n)) (hq : q < KC) (hi : vp_in i n) (hd : decode M.2.1 pc = .ok (.laload, 1)) (kk : Ev N M (pc + 1) lv (.long (σ.2 q i.toNatClampNeg) :: st) σ Q) : Ev N M pc lv (.int i :: .ref q :: st) σ Q := by
  intro g p l e s m args below meth c H locs ls C hP hS hl
  exact va_lald C.1 C.2.1 C.2.2.2.2.2.2.2.2.1 hP q 3 (ent_arr hy hq) rfl hi hd (kk g p l e s m args below meth c H locs ls C hP hS hl)
theorem ev_iast {q n : Nat} {i x : Int32} (hy : lay q = .inl (0, n)) (hq : q < KC) (hi : vp_in i n) (hd : decode M.2.1 pc = .ok (.iastore, 1)) (kk : Ev N M (pc + 1) lv st (u1 σ q i.toNatClampNeg x) Q) : Ev N M pc lv (.int x :: .int i :: .ref q :: st) σ Q := by
  intro g p l e s m args below meth c H locs ls C hP hS hl
  refine va_iast C.1 C.2.1 C.2.2.2.2.2.2.2.2.1 hP (ws_D C.2.2.2.2.2.2.2.1 σ) hS q 0 (ent_arr hy hq) rfl hi hd (fun H1 locs1 hP1 _ hS1 => kk g p l e s m args below meth c H1 locs1 ls C ?_ hS1 hl)
  rw [ws_set (σ' := u1 σ q i.toNatClampNeg x) (by unfold ent; rw [hy]; unfold entA; rw [u1_k]) (fun a h => u1_ne h) (fun _ _ => rfl)] at hP1
  exact hP1
theorem ev_zast {q n : Nat} {i x : Int32} (hy : lay q = .inl (1, n)) (hq : q < KC) (hi : vp_in i n) (hd : decode M.2.1 pc = .ok (.bastore, 1)) (kk : Ev N M (pc + 1) lv st (u1 σ q i.toNatClampNeg (vp_nar .boolean x)) Q) : Ev N M pc lv (.int x :: .int i :: .ref q :: st) σ Q := by
  intro g p l e s m args below meth c H locs ls C hP hS hl
  refine va_zast C.1 C.2.1 C.2.2.2.2.2.2.2.2.1 hP (ws_D C.2.2.2.2.2.2.2.1 σ) hS q 1 (ent_arr hy hq) rfl hi hd (fun H1 locs1 hP1 _ hS1 => kk g p l e s m args below meth c H1 locs1 ls C ?_ hS1 hl)
  rw [ws_set (σ' := u1 σ q i.toNatClampNeg (vp_nar .boolean x)) (by unfold ent; rw [hy]; unfold entA; rw [u1_k]) (fun a h => u1_ne h) (fun _ _ => rfl)] at hP1
  exact hP1
theorem ev_bast {q n : Nat} {i x : Int32} (hy : lay q = .inl (2, n)) (hq : q < KC) (hi : vp_in i n) (hd : decode M.2.1 pc = .ok (.bastore, 1)) (kk : Ev N M (pc + 1) lv st (u1 σ q i.toNatClampNeg (vp_nar .byte x)) Q) : Ev N M pc lv (.int x :: .int i :: .ref q :: st) σ Q := by
  intro g p l e s m args below meth c H locs ls C hP hS hl
  refine va_bast C.1 C.2.1 C.2.2.2.2.2.2.2.2.1 hP (ws_D C.2.2.2.2.2.2.2.1 σ) hS q 2 (ent_arr hy hq) rfl hi hd (fun H1 locs1 hP1 _ hS1 => kk g p l e s m args below meth c H1 locs1 ls C ?_ hS1 hl)
  rw [ws_set (σ' := u1 σ q i.toNatClampNeg (vp_nar .byte x)) (by unfold ent; rw [hy]; unfold entA; rw [u1_k]) (fun a h => u1_ne h) (fun _ _ => rfl)] at hP1
  exact hP1
theorem ev_last {q n : Nat} {i : Int32} {x : Int64} (hy : lay q = .inl (3, n)) (hq : q < KC) (hi : vp_in i n) (hd : decode M.2.1 pc = .ok (.lastore, 1)) (kk : Ev N M (pc + 1) lv st (u2 σ q i.toNatClampNeg x) Q) : Ev N M pc lv (.long x :: .int i :: .ref q :: st) σ Q := by
  intro g p l e s m args below meth c H locs ls C hP hS hl
  refine va_last C.1 C.2.1 C.2.2.2.2.2.2.2.2.1 hP (ws_D C.2.2.2.2.2.2.2.1 σ) hS q 3 (ent_arr hy hq) rfl hi hd (fun H1 locs1 hP1 _ hS1 => kk g p l e s m args below meth c H1 locs1 ls C ?_ hS1 hl)
  rw [ws_set (σ := σ) (σ' := u2 σ q i.toNatClampNeg x) (by unfold ent; rw [hy]; unfold entA; rw [u2_k]) (fun _ _ => rfl) (fun a h => u2_ne h)] at hP1
  exact hP1
theorem ev_aald {q n b : Nat} {i : Int32} (hy : lay q = .inl (b + 4, n)) (hq : q < KC) (hi : vp_in i n) (hd : decode M.2.1 pc = .ok (.aaload, 1)) (kk : Ev N M (pc + 1) lv (.ref (b + i.toNatClampNeg) :: st) σ Q) : Ev N M pc lv (.int i :: .ref q :: st) σ Q := by
  intro g p l e s m args below meth c H locs ls C hP hS hl
  have hlt : i.toNatClampNeg < n := Nat.not_le.mp fun q => hi (Or.inr q)
  have h0 := hP q _ (ent_arr hy hq)
  have k0 := kk g p l e s m args below meth c H locs ls C hP hS hl
  refine W.aald (v := .ref (g.2.1 (b + i.toNatClampNeg))) (ty := .array .int) C.1 C.2.1 h0 ((C.2.2.2.2.2.2.2.2.1.2 4 _ rfl).1 n _) rfl (fun q => by cases q) (by show ¬ (i < 0 ∨ (arrV _ _ _).slots.size ≤ _); rw [arrV_size]; exact hi) (by show (arrV _ _ _).slots[_]? = _; rw [arrV_read _ _ hlt]; show some (va_rf (if _ then _ else _)) = _; rw [if_pos hlt]; rfl) rfl rfl hd k0
theorem ev_getL {index : Nat} (hw : Cond.fieldLink M.1.cls index "UnreadScript$Accounts" "LIST" "[I" ∈ TB) (hd : decode M.2.1 pc = .ok (.getstatic index, 3)) (kk : Ev N M (pc + 3) lv (.ref KC :: st) σ Q) : Ev N M pc lv st σ Q := by
  intro g p l e s m args below meth c H locs ls C hP hS hl
  exact va_gets C.1 C.2.1 C.2.2.2.2.2.2.2.2.2.1 hS C.2.2.2.2.1 (C.2.2.2.2.2.1 _ hw) (fun _ h => h) hd (kk g p l e s m args below meth c H locs ls C hP hS hl)
theorem ev_lenL (hd : decode M.2.1 pc = .ok (.arraylength, 1)) (kk : Ev N M (pc + 1) lv (.int 8 :: st) σ Q) : Ev N M pc lv (.ref KC :: st) σ Q := by
  intro g p l e s m args below meth c H locs ls C hP hS hl
  exact va_tlen C.1 C.2.1 C.2.2.2.2.2.2.2.2.2.2.1 hS rfl hd (kk g p l e s m args below meth c H locs ls C hP hS hl)
theorem ev_ildL {i : Int32} (hi : vp_in i 8) (hd : decode M.2.1 pc = .ok (.iaload, 1)) (kk : Ev N M (pc + 1) lv (.int (([1, 2, 4, 5, 6, 10, 12, 60] : List Int32).getD i.toNatClampNeg 0) :: st) σ Q) : Ev N M pc lv (.int i :: .ref KC :: st) σ Q := by
  intro g p l e s m args below meth c H locs ls C hP hS hl
  exact va_ti C.1 C.2.1 C.2.2.2.2.2.2.2.2.2.2.1 hS hi rfl hd (kk g p l e s m args below meth c H locs ls C hP hS hl)
theorem ev_ldcS0 (hM : M.1.cls = "UnreadScript$Tape") (hd : decode M.2.1 pc = .ok (.ldc 42, 2)) (kk : Ev N M (pc + 2) lv (.ref (KC + 1) :: st) σ Q) : Ev N M pc lv st σ Q := by
  intro g p l e s m args below meth c H locs ls C hP hS hl
  exact va_ldcS C.1 C.2.1 (hM ▸ C.2.2.2.2.1) C.2.2.2.2.2.2.2.2.2.2.2.2.1.1 hd (kk g p l e s m args below meth c H locs ls C hP hS hl)
theorem ev_ldcS1 (hM : M.1.cls = "UnreadScript$Tape") (hd : decode M.2.1 pc = .ok (.ldc 52, 2)) (kk : Ev N M (pc + 2) lv (.ref (KC + 2) :: st) σ Q) : Ev N M pc lv st σ Q := by
  intro g p l e s m args below meth c H locs ls C hP hS hl
  exact va_ldcS C.1 C.2.1 (hM ▸ C.2.2.2.2.1) C.2.2.2.2.2.2.2.2.2.2.2.2.1.2.1 hd (kk g p l e s m args below meth c H locs ls C hP hS hl)
theorem ev_ldcS2 (hM : M.1.cls = "UnreadScript$Tape") (hd : decode M.2.1 pc = .ok (.ldc 54, 2)) (kk : Ev N M (pc + 2) lv (.ref (KC + 3) :: st) σ Q) : Ev N M pc lv st σ Q := by
  intro g p l e s m args below meth c H locs ls C hP hS hl
  exact va_ldcS C.1 C.2.1 (hM ▸ C.2.2.2.2.1) C.2.2.2.2.2.2.2.2.2.2.2.2.1.2.2.1 hd (kk g p l e s m args below meth c H locs ls C hP hS hl)
theorem ev_ldcS3 (hM : M.1.cls = "UnreadScript$Tape") (hd : decode M.2.1 pc = .ok (.ldc 56, 2)) (kk : Ev N M (pc + 2) lv (.ref (KC + 4) :: st) σ Q) : Ev N M pc lv st σ Q := by
  intro g p l e s m args below meth c H locs ls C hP hS hl
  exact va_ldcS C.1 C.2.1 (hM ▸ C.2.2.2.2.1) C.2.2.2.2.2.2.2.2.2.2.2.2.1.2.2.2.1 hd (kk g p l e s m args below meth c H locs ls C hP hS hl)
theorem ev_ldcS4 (hM : M.1.cls = "UnreadScript$Tape") (hd : decode M.2.1 pc = .ok (.ldc 58, 2)) (kk : Ev N M (pc + 2) lv (.ref (KC + 5) :: st) σ Q) : Ev N M pc lv st σ Q := by
  intro g p l e s m args below meth c H locs ls C hP hS hl
  exact va_ldcS C.1 C.2.1 (hM ▸ C.2.2.2.2.1) C.2.2.2.2.2.2.2.2.2.2.2.2.1.2.2.2.2.1 hd (kk g p l e s m args below meth c H locs ls C hP hS hl)
theorem ev_ldcS5 (hM : M.1.cls = "UnreadScript$Tape") (hd : decode M.2.1 pc = .ok (.ldc 60, 2)) (kk : Ev N M (pc + 2) lv (.ref (KC + 6) :: st) σ Q) : Ev N M pc lv st σ Q := by
  intro g p l e s m args below meth c H locs ls C hP hS hl
  exact va_ldcS C.1 C.2.1 (hM ▸ C.2.2.2.2.1) C.2.2.2.2.2.2.2.2.2.2.2.2.1.2.2.2.2.2 hd (kk g p l e s m args below meth c H locs ls C hP hS hl)
theorem ev_post {g : GC} {s : State} {H : Heap} {locs : List Loc} {args : Array Value} {r : Option Value} (hQ : Q r σ) (hP : va_P g.1 G_cl (wsOf g σ) H) (hS : va_S (AA g) s.heap H locs) : ∀ t : State, t.heap = H → s.WarmedH t.vm → QcOf g Q args s (.returned (r.map (tr g))) t := by
  intro t ht _
  exact ⟨⟨r, σ, rfl, hQ, by rw [ht]; exact hP⟩, hS.F ht⟩
theorem ev_iret {x : Int32} (hr : M.2.2.2 = some .int) (hd : decode M.2.1 pc = .ok (.ireturn, 1)) (hQ : Q (some (.int x)) σ) : Ev N M pc lv [.int x] σ Q := by
  intro g p l e s m args below meth c H locs ls C hP hS hl
  exact W.iret (v := x) C.1 C.2.1 (C.2.2.1.trans hr) (ev_post (r := some (.int x)) hQ hP hS) hS.2.2 hd C.2.2.2.2.2.2.1
theorem ev_zret {x : Int32} {ty : FieldType} (hr : M.2.2.2 = some ty) (hn : narrow ty (.int x) = .int x) (hd : decode M.2.1 pc = .ok (.ireturn, 1)) (hQ : Q (some (.int x)) σ) : Ev N M pc lv [.int x] σ Q := by
  intro g p l e s m args below meth c H locs ls C hP hS hl
  exact W.zret (v := x) C.1 C.2.1 (C.2.2.1.trans hr) hn (ev_post (r := some (.int x)) hQ hP hS) hS.2.2 hd C.2.2.2.2.2.2.1
theorem ev_lret {x : Int64} (hr : M.2.2.2 = some .long) (hd : decode M.2.1 pc = .ok (.lreturn, 1)) (hQ : Q (some (.long x)) σ) : Ev N M pc lv [.long x] σ Q := by
  intro g p l e s m args below meth c H locs ls C hP hS hl
  exact W.lret (v := x) C.1 C.2.1 (C.2.2.1.trans hr) (ev_post (r := some (.long x)) hQ hP hS) hS.2.2 hd C.2.2.2.2.2.2.1
theorem ev_vret (hr : M.2.2.2 = none) (hd : decode M.2.1 pc = .ok (.return_, 1)) (hQ : Q none σ) : Ev N M pc lv [] σ Q := by
  intro g p l e s m args below meth c H locs ls C hP hS hl
  exact W.vret C.1 C.2.1 (C.2.2.1.trans hr) (ev_post (r := none) hQ hP hS) hS.2.2 hd C.2.2.2.2.2.2.1
theorem ev_mmax {index : Nat} {x y : Int32} (hd : decode M.2.1 pc = .ok (.invokestatic index, 3)) (hw : Cond.methodLink M.1.cls index Lib.Math.max.name ∈ TB) (kk : Ev (N + 1) M (pc + 3) lv (.int (if x < y then y else x) :: st) σ Q) (hc : (st.map fun v => v.category).sum ≤ 8) : Ev (N + 1) M pc lv (.int y :: .int x :: st) σ Q := by
  intro g p l e s m args below meth c H locs ls C hP hS hl
  refine va_mmax C.1 C.2.1 (C.2.2.2.1.trans hl.1.symm) C.2.2.2.2.1 (C.2.2.2.2.2.1 _ hw) (C.2.2.2.2.2.1 _ mmax_1) (C.2.2.2.2.2.1 _ mmax_2) (C.2.2.2.2.2.1 _ mmax_3) (Nat.le_add_left 1 N) ?_ (Nat.zero_le _) (Nat.zero_le _) hd (kk g p l e s m args below meth c H locs ls C hP hS hl)
  rw [List.map_map, show ((fun v : Value => v.category) ∘ tr g) = (fun v => v.category) from funext fun v => tr_cat g v]
  show _ ≤ 60 * (N + 1)
  omega
theorem ev_mmin {index : Nat} {x y : Int32} (hd : decode M.2.1 pc = .ok (.invokestatic index, 3)) (hw : Cond.methodLink M.1.cls index Lib.Math.min.name ∈ TB) (kk : Ev (N + 1) M (pc + 3) lv (.int (if y < x then y else x) :: st) σ Q) (hc : (st.map fun v => v.category).sum ≤ 8) : Ev (N + 1) M pc lv (.int y :: .int x :: st) σ Q := by
  intro g p l e s m args below meth c H locs ls C hP hS hl
  refine va_mmin C.1 C.2.1 (C.2.2.2.1.trans hl.1.symm) C.2.2.2.2.1 (C.2.2.2.2.2.1 _ hw) (C.2.2.2.2.2.1 _ mmin_1) (C.2.2.2.2.2.1 _ mmin_2) (C.2.2.2.2.2.1 _ mmin_3) (Nat.le_add_left 1 N) ?_ (Nat.zero_le _) (Nat.zero_le _) hd (kk g p l e s m args below meth c H locs ls C hP hS hl)
  rw [List.map_map, show ((fun v : Value => v.category) ∘ tr g) = (fun v => v.category) from funext fun v => tr_cat g v]
  show _ ≤ 60 * (N + 1)
  omega

theorem PcOf.blind {g : GC} {as : List Value} : FrameBlind (va_Pc as (PcOf g σ)) := by
  intro a U gf mk ⟨h1, h2, h3, h4, h5⟩
  exact ⟨h1, h2, h3, va_K.moved (u := U) (U := U.calling gf mk a) (Vm.Alike.refl U.vm) h4, RO.same (u := U) (U := U.calling gf mk a) rfl rfl h5⟩
theorem PcOf.go {g : GC} {p : Program} {s : State} {m : MethodId} {args : Array Value} {meth : Method} {c : Code} {H : Heap} {locs : List Loc} (C : CX M g p s m args meth c) (hP : va_P g.1 G_cl (wsOf g σ) H) (hS : va_S (AA g) s.heap H locs) : ∀ U : State, U.heap = H → s.WarmedH U.vm → PcOf g σ U := by
  intro U hU hW
  exact ⟨C.2.2.2.2.2.2.2.1, by rw [hU]; exact hP, va_K.moved hW.alike C.2.2.2.2.2.2.2.2.1, RO.warm hW hS hU C.2.2.2.2.2.2.2.2.2⟩
theorem callB_TB {M' : MD} {index n : Nat} {s : State} {args : Array Value} (hts : ∀ w ∈ TB, w.before args s = true) (hM : MOK M') (hw : Cond.methodLink M.1.cls index M'.1 ∈ TB) (hp : (parseMethodDescriptor M'.1.desc).map (fun d => d.parameters.length) = some n) : CallB (RM (N + 1)) s args M.1.cls index M'.1 M'.2.1 M'.2.2.1 M'.2.2.2 (Cond.code M'.1 M'.2.1 M'.2.2.1 M'.2.2.2 :: TB) (RM N) 0 0 n := by
  obtain ⟨h1, h2, h3, h4, h5⟩ := hM
  have hG : GoodIn TB (Cond.code M'.1 M'.2.1 M'.2.2.1 M'.2.2.2 :: TB) := fun w hw => by
    rcases List.mem_cons.mp hw with rfl | hw
    · exact TB_goodIn _ h1
    · exact TB_goodIn _ hw
  exact callB_of n hts hG rfl rfl rfl (hts _ h2) (hts _ hw) ⟨h3.1, h3.2, hp⟩ ⟨Nat.le_refl _, by show 8 + (M'.2.2.1 + 11) + 60 * N ≤ 60 * (N + 1); omega⟩
/-- behind a call: what came back -/
theorem ev_back {Qc : Option Value → Sg → Prop} {g : GC} {p : Program} {l : Launch} {e : Env} {s : State} {m : MethodId} {args : Array Value} {below : List Frame} {meth : Method} {c : Code} {H : Heap} {locs : List Loc} {ls : Array Slot} {st0 : List Value} {as : List Value}
    (hr : va_Run p l e (RM (N + 1)) s m args below meth c H locs 0 0 0 0 (F0 m pc ls st0) (st.map (tr g)) (QcOf g Qc as.toArray) (AA g)) (hqc : ∀ r σ', Qc r σ' → Ev (N + 1) M (pc + 3) lv (r.toList ++ st) σ' Q)
    (C : CX M g p s m args meth c) (hS : va_S (AA g) s.heap H locs) (hl : lv_has ls M.2.2.1 (trL g lv)) :
    W p l e (RM (N + 1)) s m args below meth c H locs 0 0 (MQ below (QcOf g Q) args s 0 0 (AA g)) (F0 m pc ls st0) := by
  intro T hT X
  obtain ⟨v, st₀, t, T', L, h0, X', hL, e1, e2, ⟨⟨r, σ', hv, hq, hb⟩, hz, hk⟩, stp⟩ := hr T hT X
  cases hv
  rw [h0] at hz hk
  have hS1 : va_S (AA g) s.heap T'.heap (locs ++ L) := ⟨Nat.le_trans hS.1 (by rw [e1]; exact hz), fun q h1 h2 => by rw [e1, hk q (Nat.lt_of_lt_of_le h1 hS.1) h2]; exact hS.2.1 q h1 h2, fun q hq => by
      rcases List.mem_append.mp hq with h | h
      · exact hS.2.2 q h
      · exact hL q h⟩
  obtain ⟨t2, a1, b1⟩ := hqc r σ' hq g p l e s m args below meth c T'.heap (locs ++ L) ls C (by rw [e1]; exact hb) hS1 hl T' rfl X'
  refine ⟨t2, stp t2 ?_, b1⟩
  have : (r.toList ++ st).map (tr g) = (r.map (tr g)).toList ++ st.map (tr g) := by cases r <;> simp
  rw [this] at a1
  exact a1
theorem ev_callV {Qc : Option Value → Sg → Prop} {M' : MD} {index ci q : Nat} {T : u_T} {nf : Nat} {ty : Nat → FieldType} {fs : List (Option Nat)} (as : List Value) {st0 : List Value} (hM : MOV M') (G : GF ci M'.1.cls T nf ty) (hy : lay q = .inr (ci, fs)) (hd : decode M.2.1 pc = .ok (.invokevirtual index, 3)) (hw : Cond.methodLink M.1.cls index M'.1 ∈ TB) (hp : (parseMethodDescriptor M'.1.desc).map (fun d => d.parameters.length) = some as.length)
    (hst : st0 = as.reverse ++ .ref q :: st) (hc : (st.map fun v => v.category).sum ≤ 8) (kk : EvM N M' (.ref q :: as) σ Qc) (hqc : ∀ r σ', Qc r σ' → Ev (N + 1) M (pc + 3) lv (r.toList ++ st) σ' Q) : Ev (N + 1) M pc lv st0 σ Q := by
  intro g p l e s m args below meth c H locs ls C hP hS hl
  refine ev_back (as := (.ref q :: as).map (tr g)) (va_runV (C := M'.1.cls) (As := as.map (tr g)) (rest := st.map (tr g)) ⟨C.1, C.2.1, C.2.2.2.1, C.2.2.2.2.1, C.2.2.2.2.2.1⟩ (kk l g) ⟨callB_TB C.2.2.2.2.2.1 hM.1 hw hp, C.2.2.2.2.2.1 _ hM.2.1, C.2.2.2.2.2.1 _ hM.2.2⟩ ⟨PcOf.blind, va_recv C.2.2.2.2.2.2.2.2.1 hP G.1 (ent_obj hy), fun U hU hW => ⟨rfl, PcOf.go C hP hS U hU hW⟩⟩ rfl (by simp) hl.1 ?_ ?_ hd ⟨Nat.le_refl _, Nat.le_refl _⟩) hqc C hS hl
  · subst hst
    simp [tr]
  · refine lv_room (pc := pc) (m := m) (ls := ls) (rest := st0.map (tr g)) ?_
    rw [List.map_map, show ((fun v : Value => v.category) ∘ tr g) = (fun v => v.category) from funext fun v => tr_cat g v]
    exact hc
theorem ev_callS {Qc : Option Value → Sg → Prop} {M' : MD} {index : Nat} (as : List Value) {st0 : List Value} (hM : MOS M') (hd : decode M.2.1 pc = .ok (.invokestatic index, 3)) (hw : Cond.methodLink M.1.cls index M'.1 ∈ TB) (hp : (parseMethodDescriptor M'.1.desc).map (fun d => d.parameters.length) = some as.length)
    (hst : st0 = as.reverse ++ st) (hc : (st.map fun v => v.category).sum ≤ 8) (kk : EvM N M' as σ Qc) (hqc : ∀ r σ', Qc r σ' → Ev (N + 1) M (pc + 3) lv (r.toList ++ st) σ' Q) : Ev (N + 1) M pc lv st0 σ Q := by
  intro g p l e s m args below meth c H locs ls C hP hS hl
  refine ev_back (as := as.map (tr g)) (va_runS (As := as.map (tr g)) (rest := st.map (tr g)) ⟨C.1, C.2.1, C.2.2.2.1, C.2.2.2.2.1, C.2.2.2.2.2.1⟩ (kk l g) ⟨callB_TB C.2.2.2.2.2.1 hM.1 hw hp, C.2.2.2.2.2.1 _ hM.2⟩ ⟨PcOf.blind, fun U hU hW => ⟨rfl, PcOf.go C hP hS U hU hW⟩⟩ rfl (by simp) hl.1 ?_ ?_ hd ⟨Nat.le_refl _, Nat.le_refl _⟩) hqc C hS hl
  · subst hst
    simp
  · refine lv_room (pc := pc) (m := m) (ls := ls) (rest := st0.map (tr g)) ?_
    rw [List.map_map, show ((fun v : Value => v.category) ∘ tr g) = (fun v => v.category) from funext fun v => tr_cat g v]
    exact hc
end EV

theorem G0 : GF 0 RX0 TX0 6 tyX0 := ⟨rfl, inTB0, tyX0_ok, nmX0⟩
theorem G1 : GF 1 RX1 TX1 12 tyX1 := ⟨rfl, inTB1, tyX1_ok, nmX1⟩
theorem G2 : GF 2 RX2 TX2 5 tyX2 := ⟨rfl, inTB2, tyX2_ok, nmX2⟩
theorem G3 : GF 3 RX3 TX3 11 tyX3 := ⟨rfl, inTB3, tyX3_ok, nmX3⟩
theorem G4 : GF 4 RX4 TX4 4 tyX4 := ⟨rfl, inTB4, tyX4_ok, nmX4⟩
theorem G5 : GF 5 RX5 TX5 3 tyX5 := ⟨rfl, inTB5, tyX5_ok, nmX5⟩
theorem G6 : GF 6 RX6 TX6 5 tyX6 := ⟨rfl, inTB6, tyX6_ok, nmX6⟩
theorem G7 : GF 7 RX7 TX7 11 tyX7 := ⟨rfl, inTB7, tyX7_ok, nmX7⟩
theorem G8 : GF 8 RX8 TX8 15 tyX8 := ⟨rfl, inTB8, tyX8_ok, nmX8⟩
theorem G9 : GF 9 RX9 TX9 9 tyX9 := ⟨rfl, inTB9, tyX9_ok, nmX9⟩
theorem G10 : GF 10 RX10 TX10 63 tyX10 := ⟨rfl, inTB10, tyX10_ok, nmX10⟩
