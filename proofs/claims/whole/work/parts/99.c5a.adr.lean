/-! ===== the addresses of the cells, printed by gen_c9.py ===== -/
/-- cell by cell: 0 an object of a class, 1 its constructor's n-th new array, 2 a row of its n-th array of arrays -/
def ACel : List (Nat × Nat × Nat × Nat) := [(0, 9, 0, 0), (0, 2, 0, 0), (1, 2, 0, 0), (1, 2, 1, 0), (1, 2, 2, 0), (0, 7, 0, 0), (1, 7, 0, 0), (1, 7, 1, 0), (2, 7, 0, 0), (2, 7, 0, 1), (2, 7, 0, 2), (2, 7, 0, 3), (2, 7, 0, 4), (2, 7, 0, 5), (2, 7, 0, 6), (2, 7, 0, 7), (1, 7, 2, 0), (1, 7, 3, 0), (1, 7, 4, 0), (1, 7, 5, 0), (1, 7, 6, 0), (1, 7, 7, 0), (0, 3, 0, 0), (1, 3, 0, 0), (2, 3, 0, 0), (2, 3, 0, 1), (2, 3, 0, 2), (2, 3, 0, 3), (2, 3, 0, 4), (2, 3, 0, 5), (2, 3, 0, 6), (2, 3, 0, 7), (2, 3, 0, 8), (2, 3, 0, 9), (2, 3, 0, 10), (2, 3, 0, 11), (2, 3, 0, 12), (2, 3, 0, 13), (2, 3, 0, 14), (2, 3, 0, 15), (2, 3, 0, 16), (2, 3, 0, 17), (2, 3, 0, 18), (2, 3, 0, 19), (2, 3, 0, 20), (2, 3, 0, 21), (2, 3, 0, 22), (2, 3, 0, 23), (1, 3, 1, 0), (2, 3, 1, 0), (2, 3, 1, 1), (2, 3, 1, 2), (2, 3, 1, 3), (2, 3, 1, 4), (2, 3, 1, 5), (2, 3, 1, 6), (2, 3, 1, 7), (2, 3, 1, 8), (2, 3, 1, 9), (2, 3, 1, 10), (2, 3, 1, 11), (2, 3, 1, 12), (2, 3, 1, 13), (2, 3, 1, 14), (2, 3, 1, 15), (2, 3, 1, 16), (2, 3, 1, 17), (2, 3, 1, 18), (2, 3, 1, 19), (2, 3, 1, 20), (2, 3, 1, 21), (2, 3, 1, 22), (2, 3, 1, 23), (1, 3, 2, 0), (2, 3, 2, 0), (2, 3, 2, 1), (2, 3, 2, 2), (2, 3, 2, 3), (2, 3, 2, 4), (2, 3, 2, 5), (2, 3, 2, 6), (2, 3, 2, 7), (2, 3, 2, 8), (2, 3, 2, 9), (2, 3, 2, 10), (2, 3, 2, 11), (2, 3, 2, 12), (2, 3, 2, 13), (2, 3, 2, 14), (2, 3, 2, 15), (2, 3, 2, 16), (2, 3, 2, 17), (2, 3, 2, 18), (2, 3, 2, 19), (2, 3, 2, 20), (2, 3, 2, 21), (2, 3, 2, 22), (2, 3, 2, 23), (1, 3, 3, 0), (1, 3, 4, 0), (1, 3, 5, 0), (1, 3, 6, 0), (0, 0, 0, 0), (1, 0, 0, 0), (2, 0, 0, 0), (2, 0, 0, 1), (2, 0, 0, 2), (2, 0, 0, 3), (2, 0, 0, 4), (2, 0, 0, 5), (2, 0, 0, 6), (2, 0, 0, 7), (1, 0, 1, 0), (1, 0, 2, 0), (1, 0, 3, 0), (0, 4, 0, 0), (1, 4, 0, 0), (2, 4, 0, 0), (2, 4, 0, 1), (2, 4, 0, 2), (2, 4, 0, 3), (1, 4, 1, 0), (0, 8, 0, 0), (1, 8, 0, 0), (1, 8, 1, 0), (1, 8, 2, 0), (1, 8, 3, 0), (1, 8, 4, 0), (2, 8, 0, 0), (2, 8, 0, 1), (2, 8, 0, 2), (2, 8, 0, 3), (2, 8, 0, 4), (2, 8, 0, 5), (2, 8, 0, 6), (2, 8, 0, 7), (2, 8, 0, 8), (2, 8, 0, 9), (2, 8, 0, 10), (2, 8, 0, 11), (2, 8, 0, 12), (2, 8, 0, 13), (2, 8, 0, 14), (2, 8, 0, 15), (2, 8, 0, 16), (2, 8, 0, 17), (2, 8, 0, 18), (2, 8, 0, 19), (2, 8, 0, 20), (2, 8, 0, 21), (2, 8, 0, 22), (2, 8, 0, 23), (2, 8, 0, 24), (2, 8, 0, 25), (2, 8, 0, 26), (2, 8, 0, 27), (2, 8, 0, 28), (2, 8, 0, 29), (2, 8, 0, 30), (2, 8, 0, 31), (2, 8, 0, 32), (2, 8, 0, 33), (2, 8, 0, 34), (2, 8, 0, 35), (2, 8, 0, 36), (2, 8, 0, 37), (2, 8, 0, 38), (2, 8, 0, 39), (2, 8, 0, 40), (2, 8, 0, 41), (2, 8, 0, 42), (2, 8, 0, 43), (2, 8, 0, 44), (2, 8, 0, 45), (2, 8, 0, 46), (2, 8, 0, 47), (2, 8, 0, 48), (2, 8, 0, 49), (2, 8, 0, 50), (2, 8, 0, 51), (2, 8, 0, 52), (2, 8, 0, 53), (2, 8, 0, 54), (2, 8, 0, 55), (2, 8, 0, 56), (2, 8, 0, 57), (2, 8, 0, 58), (2, 8, 0, 59), (2, 8, 0, 60), (2, 8, 0, 61), (2, 8, 0, 62), (2, 8, 0, 63), (2, 8, 0, 64), (2, 8, 0, 65), (2, 8, 0, 66), (2, 8, 0, 67), (2, 8, 0, 68), (2, 8, 0, 69), (2, 8, 0, 70), (2, 8, 0, 71), (2, 8, 0, 72), (2, 8, 0, 73), (2, 8, 0, 74), (2, 8, 0, 75), (2, 8, 0, 76), (2, 8, 0, 77), (2, 8, 0, 78), (2, 8, 0, 79), (2, 8, 0, 80), (2, 8, 0, 81), (2, 8, 0, 82), (2, 8, 0, 83), (2, 8, 0, 84), (2, 8, 0, 85), (2, 8, 0, 86), (2, 8, 0, 87), (2, 8, 0, 88), (2, 8, 0, 89), (2, 8, 0, 90), (2, 8, 0, 91), (2, 8, 0, 92), (2, 8, 0, 93), (2, 8, 0, 94), (2, 8, 0, 95), (1, 8, 5, 0), (1, 8, 6, 0), (1, 8, 7, 0), (1, 8, 8, 0), (0, 6, 0, 0), (1, 6, 0, 0), (0, 1, 0, 0), (1, 1, 0, 0), (1, 1, 1, 0), (1, 1, 2, 0), (1, 1, 3, 0), (1, 1, 4, 0), (1, 1, 5, 0), (0, 5, 0, 0), (1, 5, 0, 0), (1, 5, 1, 0), (1, 5, 2, 0), (2, 5, 0, 0), (2, 5, 0, 1), (2, 5, 0, 2), (2, 5, 0, 3), (0, 10, 0, 0), (1, 10, 0, 0), (1, 10, 1, 0), (1, 10, 2, 0), (1, 10, 3, 0), (1, 10, 4, 0), (1, 10, 5, 0), (1, 10, 6, 0), (1, 10, 7, 0), (1, 10, 8, 0), (1, 10, 9, 0), (1, 10, 10, 0), (1, 10, 11, 0), (1, 10, 12, 0), (1, 10, 13, 0), (1, 10, 14, 0), (1, 10, 15, 0), (1, 10, 16, 0), (1, 10, 17, 0), (1, 10, 18, 0), (1, 10, 19, 0), (1, 10, 20, 0), (1, 10, 21, 0), (1, 10, 22, 0), (1, 10, 23, 0), (1, 10, 24, 0), (1, 10, 25, 0), (1, 10, 26, 0), (1, 10, 27, 0), (1, 10, 28, 0), (1, 10, 29, 0), (1, 10, 30, 0), (1, 10, 31, 0), (1, 10, 32, 0), (1, 10, 33, 0), (1, 10, 34, 0), (1, 10, 35, 0), (1, 10, 36, 0), (1, 10, 37, 0), (1, 10, 38, 0), (1, 10, 39, 0)]
def acd (k : Nat) : Nat × Nat × Nat × Nat := ACel.getD k (3, 0, 0, 0)
def adrOf (hh : Nat → Nat) (uu : Nat → (Nat → Nat) × (Nat → Nat → Nat)) (z : Nat) : Nat × Nat × Nat × Nat → Nat
  | (0, ci, _, _) => hh ci
  | (1, ci, t, _) => (uu ci).1 t
  | (2, ci, t, i) => (uu ci).2 t i
  | _ => z
def adr (hh : Nat → Nat) (uu : Nat → (Nat → Nat) × (Nat → Nat → Nat)) (ext : Nat → Nat) (k : Nat) : Nat := adrOf hh uu (ext k) (acd k)
/-- the context of the law's walk: the objects' addresses, what their constructors made, what lies outside -/
def gA (G0 : GC) (hh : Nat → Nat) (uu : Nat → (Nat → Nat) × (Nat → Nat → Nat)) (ext : Nat → Nat) (adV : Nat → Nat) : GC := (G0.1, adr hh uu ext, G0.2.2.1, adV)
def seg (g : GC) (a n : Nat) : va_W := (List.range n).map fun i => (g.2.1 (a + i), ent g st0 (a + i))
section SEG
variable {g : GC}
theorem seg_all : wsOf g st0 = seg g 0 KC := by
  unfold wsOf seg
  apply List.map_congr_left
  intro i _
  rw [Nat.zero_add]
theorem seg_app (a n m : Nat) : seg g a n ++ seg g (a + n) m = seg g a (n + m) := by
  unfold seg
  rw [List.range_add, List.map_append, List.map_map]
  congr 1
  apply List.map_congr_left
  intro i _
  show _ = (g.2.1 (a + (n + i)), ent g st0 (a + (n + i)))
  rw [Nat.add_assoc]
theorem seg_1 (a : Nat) : [(g.2.1 a, ent g st0 a)] = seg g a 1 := rfl
theorem seg_nil (a : Nat) : [] = seg g a 0 := rfl
theorem seg_cat {X Y : va_W} {a n m : Nat} (k : Nat) (hk : a + n = k) (h1 : X = seg g a n) (h2 : Y = seg g k m) : X ++ Y = seg g a (n + m) := by
  subst hk
  rw [h1, h2, seg_app]
theorem seg_one {X : va_W} {x : Nat × va_E} {a n : Nat} (k : Nat) (hk : a + n = k) (h : X = seg g a n) (hx : x = (g.2.1 k, ent g st0 k)) : X ++ [x] = seg g a (n + 1) := by
  rw [hx]
  exact seg_cat k hk h (seg_1 k)
theorem seg_head {R : va_W} {x : Nat × va_E} {a n : Nat} (hx : x = (g.2.1 a, ent g st0 a)) (h : R = seg g (a + 1) n) : x :: R = seg g a (n + 1) := by
  rw [hx, Nat.add_comm n 1]
  show [_] ++ R = _
  exact seg_cat (a + 1) rfl (seg_1 a) h
theorem seg_rows {X Y : va_W} {x : Nat × va_E} {a n N : Nat} (k : Nat) (hk : a + n = k) (h : X = seg g a n) (hx : x = (g.2.1 k, ent g st0 k)) (hy : Y = seg g (k + 1) N) : X ++ (x :: Y) = seg g a (n + (N + 1)) := seg_cat k hk h (seg_head hx hy)
end SEG
theorem st0_f {k : Nat} (h : k ≠ 1 ∧ k ≠ 245 ∧ k ≠ 239 ∧ k ≠ 283) : st0.1 k = fun _ => 0 := funext fun j => st0_z (by omega) (by omega)
theorem st0_m {k : Nat} (h : k = 239 ∨ k = 283) : upd (upd (upd (upd (fun _ => 0) 0 (-4)) 1 (-4)) 2 (-4)) 3 (-4) = st0.1 k := by
  funext j
  show _ = (if (k = 1 ∧ j = 4) ∨ (k = 245 ∧ j = 2) then (1 : Int32) else if (k = 239 ∨ k = 283) ∧ j < 4 then -4 else 0)
  rw [if_neg (by omega)]
  by_cases h4 : j < 4
  · rw [if_pos ⟨h, h4⟩]
    rcases (show j = 0 ∨ j = 1 ∨ j = 2 ∨ j = 3 by omega) with r | r | r | r <;> subst r <;> rfl
  · rw [if_neg (by omega)]
    simp only [upd]
    rw [if_neg (by omega), if_neg (by omega), if_neg (by omega), if_neg (by omega)]
section ENT
variable {G0 : GC} {hh : Nat → Nat} {uu : Nat → (Nat → Nat) × (Nat → Nat → Nat)} {ext adV : Nat → Nat}
theorem ga_o {k ci t i : Nat} (h : acd k = (0, ci, t, i)) : (gA G0 hh uu ext adV).2.1 k = hh ci := by
  show adrOf hh uu (ext k) (acd k) = _
  rw [h]; rfl
theorem ga_a {k ci t i : Nat} (h : acd k = (1, ci, t, i)) : (gA G0 hh uu ext adV).2.1 k = (uu ci).1 t := by
  show adrOf hh uu (ext k) (acd k) = _
  rw [h]; rfl
theorem ga_r {k ci t i : Nat} (h : acd k = (2, ci, t, i)) : (gA G0 hh uu ext adV).2.1 k = (uu ci).2 t i := by
  show adrOf hh uu (ext k) (acd k) = _
  rw [h]; rfl
theorem ar0 {k n ci t i : Nat} (hl : lay k = .inl (0, n)) (ha : acd k = (1, ci, t, i)) {f : Nat → Int32} (hf : f = st0.1 k) : ((uu ci).1 t, (.inl (G0.2.2.1 0, n, .inl f) : va_E)) = ((gA G0 hh uu ext adV).2.1 k, ent (gA G0 hh uu ext adV) st0 k) := by
  subst hf
  rw [ga_a ha]
  unfold ent
  rw [hl]
  rfl
theorem ar1 {k n ci t i : Nat} (hl : lay k = .inl (1, n)) (ha : acd k = (1, ci, t, i)) {f : Nat → Int32} (hf : f = st0.1 k) : ((uu ci).1 t, (.inl (G0.2.2.1 1, n, .inl f) : va_E)) = ((gA G0 hh uu ext adV).2.1 k, ent (gA G0 hh uu ext adV) st0 k) := by
  subst hf
  rw [ga_a ha]
  unfold ent
  rw [hl]
  rfl
theorem ar2 {k n ci t i : Nat} (hl : lay k = .inl (2, n)) (ha : acd k = (1, ci, t, i)) {f : Nat → Int32} (hf : f = st0.1 k) : ((uu ci).1 t, (.inl (G0.2.2.1 2, n, .inl f) : va_E)) = ((gA G0 hh uu ext adV).2.1 k, ent (gA G0 hh uu ext adV) st0 k) := by
  subst hf
  rw [ga_a ha]
  unfold ent
  rw [hl]
  rfl
theorem ar3 {k n ci t i : Nat} (hl : lay k = .inl (3, n)) (ha : acd k = (1, ci, t, i)) : ((uu ci).1 t, (.inl (G0.2.2.1 3, n, .inr (.inl (fun _ => 0))) : va_E)) = ((gA G0 hh uu ext adV).2.1 k, ent (gA G0 hh uu ext adV) st0 k) := by
  rw [ga_a ha]
  unfold ent
  rw [hl]
  rfl
theorem ar4 {k n t0 ci t i r : Nat} (hl : lay k = .inl (t0 + 4, n)) (ha : acd k = (1, ci, t, i)) (hr : ∀ j, j < n → acd (t0 + j) = (2, ci, r, j)) : ((uu ci).1 t, (.inl (G0.2.2.1 4, n, .inr (.inr (.inr (.inr (fun j => if j < n then some ((uu ci).2 r j) else none))))) : va_E)) = ((gA G0 hh uu ext adV).2.1 k, ent (gA G0 hh uu ext adV) st0 k) := by
  rw [ga_a ha]
  unfold ent
  rw [hl]
  have e : (fun j => if j < n then some ((uu ci).2 r j) else none) = (fun j => if j < n then some ((gA G0 hh uu ext adV).2.1 (t0 + j)) else none) := by
    funext j
    by_cases h : j < n
    · rw [if_pos h, if_pos h, ga_r (hr j h)]
    · rw [if_neg h, if_neg h]
  rw [e]
  rfl
theorem arR {k n N ci r : Nat} (hl : ∀ i : Nat, i < N → lay (k + i) = .inl (0, n) ∧ k + i < KC) (hr : ∀ j, j < N → acd (k + j) = (2, ci, r, j)) (hz : ∀ i, i < N → k + i ≠ 1 ∧ k + i ≠ 245 ∧ k + i ≠ 239 ∧ k + i ≠ 283) : (List.range N).map (fun i => ((uu ci).2 r i, (.inl (G0.2.2.1 0, n, .inl (fun _ => 0)) : va_E))) = seg (gA G0 hh uu ext adV) k N := by
  unfold seg
  apply List.map_congr_left
  intro i hi
  rw [List.mem_range] at hi
  rw [ga_r (hr i hi)]
  unfold ent
  rw [(hl i hi).1]
  show _ = (_, Sum.inl (_, _, Sum.inl (st0.1 (k + i))))
  rw [st0_f (hz i hi)]
  rfl
end ENT

theorem acd_1 : acd 1 = (0, 2, 0, 0) := by decide +kernel
theorem acd_2 : acd 2 = (1, 2, 0, 0) := by decide +kernel
theorem acd_3 : acd 3 = (1, 2, 1, 0) := by decide +kernel
theorem acd_4 : acd 4 = (1, 2, 2, 0) := by decide +kernel
theorem acd_5 : acd 5 = (0, 7, 0, 0) := by decide +kernel
theorem acd_6 : acd 6 = (1, 7, 0, 0) := by decide +kernel
theorem acd_7 : acd 7 = (1, 7, 1, 0) := by decide +kernel
theorem acd_16 : acd 16 = (1, 7, 2, 0) := by decide +kernel
theorem acd_17 : acd 17 = (1, 7, 3, 0) := by decide +kernel
theorem acd_18 : acd 18 = (1, 7, 4, 0) := by decide +kernel
theorem acd_19 : acd 19 = (1, 7, 5, 0) := by decide +kernel
theorem acd_20 : acd 20 = (1, 7, 6, 0) := by decide +kernel
theorem acd_21 : acd 21 = (1, 7, 7, 0) := by decide +kernel
theorem acd_22 : acd 22 = (0, 3, 0, 0) := by decide +kernel
theorem acd_23 : acd 23 = (1, 3, 0, 0) := by decide +kernel
theorem acd_48 : acd 48 = (1, 3, 1, 0) := by decide +kernel
theorem acd_73 : acd 73 = (1, 3, 2, 0) := by decide +kernel
theorem acd_98 : acd 98 = (1, 3, 3, 0) := by decide +kernel
theorem acd_99 : acd 99 = (1, 3, 4, 0) := by decide +kernel
theorem acd_100 : acd 100 = (1, 3, 5, 0) := by decide +kernel
theorem acd_101 : acd 101 = (1, 3, 6, 0) := by decide +kernel
theorem acd_102 : acd 102 = (0, 0, 0, 0) := by decide +kernel
theorem acd_103 : acd 103 = (1, 0, 0, 0) := by decide +kernel
theorem acd_112 : acd 112 = (1, 0, 1, 0) := by decide +kernel
theorem acd_113 : acd 113 = (1, 0, 2, 0) := by decide +kernel
theorem acd_114 : acd 114 = (1, 0, 3, 0) := by decide +kernel
theorem acd_115 : acd 115 = (0, 4, 0, 0) := by decide +kernel
theorem acd_116 : acd 116 = (1, 4, 0, 0) := by decide +kernel
theorem acd_121 : acd 121 = (1, 4, 1, 0) := by decide +kernel
theorem acd_122 : acd 122 = (0, 8, 0, 0) := by decide +kernel
theorem acd_123 : acd 123 = (1, 8, 0, 0) := by decide +kernel
theorem acd_124 : acd 124 = (1, 8, 1, 0) := by decide +kernel
theorem acd_125 : acd 125 = (1, 8, 2, 0) := by decide +kernel
theorem acd_126 : acd 126 = (1, 8, 3, 0) := by decide +kernel
theorem acd_127 : acd 127 = (1, 8, 4, 0) := by decide +kernel
theorem acd_224 : acd 224 = (1, 8, 5, 0) := by decide +kernel
theorem acd_225 : acd 225 = (1, 8, 6, 0) := by decide +kernel
theorem acd_226 : acd 226 = (1, 8, 7, 0) := by decide +kernel
theorem acd_227 : acd 227 = (1, 8, 8, 0) := by decide +kernel
theorem acd_228 : acd 228 = (0, 6, 0, 0) := by decide +kernel
theorem acd_229 : acd 229 = (1, 6, 0, 0) := by decide +kernel
theorem acd_230 : acd 230 = (0, 1, 0, 0) := by decide +kernel
theorem acd_231 : acd 231 = (1, 1, 0, 0) := by decide +kernel
theorem acd_232 : acd 232 = (1, 1, 1, 0) := by decide +kernel
theorem acd_233 : acd 233 = (1, 1, 2, 0) := by decide +kernel
theorem acd_234 : acd 234 = (1, 1, 3, 0) := by decide +kernel
theorem acd_235 : acd 235 = (1, 1, 4, 0) := by decide +kernel
theorem acd_236 : acd 236 = (1, 1, 5, 0) := by decide +kernel
theorem acd_237 : acd 237 = (0, 5, 0, 0) := by decide +kernel
theorem acd_238 : acd 238 = (1, 5, 0, 0) := by decide +kernel
theorem acd_239 : acd 239 = (1, 5, 1, 0) := by decide +kernel
theorem acd_240 : acd 240 = (1, 5, 2, 0) := by decide +kernel
theorem acd_245 : acd 245 = (0, 10, 0, 0) := by decide +kernel
theorem acd_246 : acd 246 = (1, 10, 0, 0) := by decide +kernel
theorem acd_247 : acd 247 = (1, 10, 1, 0) := by decide +kernel
theorem acd_248 : acd 248 = (1, 10, 2, 0) := by decide +kernel
theorem acd_249 : acd 249 = (1, 10, 3, 0) := by decide +kernel
theorem acd_250 : acd 250 = (1, 10, 4, 0) := by decide +kernel
theorem acd_251 : acd 251 = (1, 10, 5, 0) := by decide +kernel
theorem acd_252 : acd 252 = (1, 10, 6, 0) := by decide +kernel
theorem acd_253 : acd 253 = (1, 10, 7, 0) := by decide +kernel
theorem acd_254 : acd 254 = (1, 10, 8, 0) := by decide +kernel
theorem acd_255 : acd 255 = (1, 10, 9, 0) := by decide +kernel
theorem acd_256 : acd 256 = (1, 10, 10, 0) := by decide +kernel
theorem acd_257 : acd 257 = (1, 10, 11, 0) := by decide +kernel
theorem acd_258 : acd 258 = (1, 10, 12, 0) := by decide +kernel
theorem acd_259 : acd 259 = (1, 10, 13, 0) := by decide +kernel
theorem acd_260 : acd 260 = (1, 10, 14, 0) := by decide +kernel
theorem acd_261 : acd 261 = (1, 10, 15, 0) := by decide +kernel
theorem acd_262 : acd 262 = (1, 10, 16, 0) := by decide +kernel
theorem acd_263 : acd 263 = (1, 10, 17, 0) := by decide +kernel
theorem acd_264 : acd 264 = (1, 10, 18, 0) := by decide +kernel
theorem acd_265 : acd 265 = (1, 10, 19, 0) := by decide +kernel
theorem acd_266 : acd 266 = (1, 10, 20, 0) := by decide +kernel
theorem acd_267 : acd 267 = (1, 10, 21, 0) := by decide +kernel
theorem acd_268 : acd 268 = (1, 10, 22, 0) := by decide +kernel
theorem acd_269 : acd 269 = (1, 10, 23, 0) := by decide +kernel
theorem acd_270 : acd 270 = (1, 10, 24, 0) := by decide +kernel
theorem acd_271 : acd 271 = (1, 10, 25, 0) := by decide +kernel
theorem acd_272 : acd 272 = (1, 10, 26, 0) := by decide +kernel
theorem acd_273 : acd 273 = (1, 10, 27, 0) := by decide +kernel
theorem acd_274 : acd 274 = (1, 10, 28, 0) := by decide +kernel
theorem acd_275 : acd 275 = (1, 10, 29, 0) := by decide +kernel
theorem acd_276 : acd 276 = (1, 10, 30, 0) := by decide +kernel
theorem acd_277 : acd 277 = (1, 10, 31, 0) := by decide +kernel
theorem acd_278 : acd 278 = (1, 10, 32, 0) := by decide +kernel
theorem acd_279 : acd 279 = (1, 10, 33, 0) := by decide +kernel
theorem acd_280 : acd 280 = (1, 10, 34, 0) := by decide +kernel
theorem acd_281 : acd 281 = (1, 10, 35, 0) := by decide +kernel
theorem acd_282 : acd 282 = (1, 10, 36, 0) := by decide +kernel
theorem acd_283 : acd 283 = (1, 10, 37, 0) := by decide +kernel
theorem acd_284 : acd 284 = (1, 10, 38, 0) := by decide +kernel
theorem acd_285 : acd 285 = (1, 10, 39, 0) := by decide +kernel
theorem acr_8 : ∀ j, j < 8 → acd (8 + j) = (2, 7, 0, j) := by decide +kernel
theorem acr_24 : ∀ j, j < 24 → acd (24 + j) = (2, 3, 0, j) := by decide +kernel
theorem acr_49 : ∀ j, j < 24 → acd (49 + j) = (2, 3, 1, j) := by decide +kernel
theorem acr_74 : ∀ j, j < 24 → acd (74 + j) = (2, 3, 2, j) := by decide +kernel
theorem acr_104 : ∀ j, j < 8 → acd (104 + j) = (2, 0, 0, j) := by decide +kernel
theorem acr_117 : ∀ j, j < 4 → acd (117 + j) = (2, 4, 0, j) := by decide +kernel
theorem acr_128 : ∀ j, j < 96 → acd (128 + j) = (2, 8, 0, j) := by decide +kernel
theorem acr_241 : ∀ j, j < 4 → acd (241 + j) = (2, 5, 0, j) := by decide +kernel
