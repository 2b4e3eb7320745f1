/-! ===== what the class and the reference hold alike ===== -/
/-- ones among the lowest k bits -/
def pc : Nat → Nat → Nat
  | 0, _ => 0
  | k + 1, n => pc k n + n / 2 ^ k % 2
/-- one step of grouping: the forms a and b, if they are like -/
def jn (a b : Nat) (g : Nat → Nat) : Nat → Nat := fun x => if g x = max (g a) (g b) then min (g a) (g b) else g x
def grI (like : Nat → Nat → Bool) (a : Nat) : Nat → (Nat → Nat) → (Nat → Nat)
  | 0, g => g
  | b + 1, g => if like a b = true then jn a b (grI like a b g) else grI like a b g
def grO (like : Nat → Nat → Bool) : Nat → (Nat → Nat)
  | 0 => id
  | a + 1 => grI like a a (grO like a)
def lkB (ft : Nat → Nat) (lk a b : Nat) : Bool := decide (pc 24 (ft a ^^^ ft b) ≤ lk)
/-- the sign of a form -/
def rep (ft : Nat → Nat) (nF lk : Nat) : Nat → Nat := grO (lkB ft lk) nF
def RF (nF lk : Nat) (ft : Nat → Nat) (σ : Sg) : Prop := nF ≤ 24 ∧ lk ≤ 12 ∧ σ.1 1 3 = nI nF ∧ σ.1 1 4 = nI lk ∧ σ.1 245 0 = nI nF ∧ σ.1 245 2 = nI lk ∧ ∀ i, i < nF → ft i < 4096 ∧ σ.1 2 i = nI (ft i) ∧ σ.1 246 i = nI (ft i) ∧ σ.1 3 i = nI (rep ft nF lk i)
def cOk (nF : Nat) (v : Int32) : Prop := v = -1 ∨ v = -2 ∨ ∃ f, f < nF ∧ v = nI f
abbrev Wd : Type := Nat × Nat × Nat × Bool
/-- no gap among the cells s .. s + l - 1 -/
def noGap (cell : Nat → Int32) (s : Nat) : Nat → Bool
  | 0 => true
  | l + 1 => noGap cell s l && !(cell (s + l) == -1)
/-- words of a text of n cells: what stands behind the c first cells -/
def wScan (cell : Nat → Int32) (n t : Nat) : Nat → Nat × List Wd
  | 0 => (0, [])
  | c + 1 => if c < n ∧ ¬ cell c = -2 then wScan cell n t c else
      (c + 1, if (wScan cell n t c).1 < c then (wScan cell n t c).2 ++ [(t, (wScan cell n t c).1, c - (wScan cell n t c).1, noGap cell (wScan cell n t c).1 (c - (wScan cell n t c).1))] else (wScan cell n t c).2)
def wT (cell : Nat → Int32) (n t : Nat) : List Wd := (wScan cell n t (n + 1)).2
def wL (tl : Nat → Nat) (tc : Nat → Nat → Int32) : Nat → List Wd
  | 0 => []
  | t + 1 => wL tl tc t ++ wT (tc t) (tl t) t
def b2 (b : Bool) : Int32 := if b = true then 1 else 0
def wAt (l : List Wd) (w : Nat) : Wd := l.getD w (0, 0, 0, false)
def RT (nF nT : Nat) (tl : Nat → Nat) (tc : Nat → Nat → Int32) (σ : Sg) : Prop := nT ≤ 8 ∧ σ.1 5 4 = nI nT ∧ σ.1 245 4 = nI nT ∧
  (∀ t, t < nT → 1 ≤ tl t ∧ tl t ≤ 24 ∧ σ.1 16 t = nI (tl t) ∧ σ.1 248 t = nI (tl t) ∧ ∀ c, c < tl t → cOk nF (tc t c) ∧ σ.1 (8 + t) c = tc t c ∧ σ.1 249 (24 * t + c) = tc t c) ∧
  σ.1 5 9 = nI (wL tl tc nT).length ∧ ∀ w, w < (wL tl tc nT).length → σ.1 17 w = nI (wAt (wL tl tc nT) w).1 ∧ σ.1 18 w = nI (wAt (wL tl tc nT) w).2.1 ∧ σ.1 19 w = nI (wAt (wL tl tc nT) w).2.2.1 ∧ σ.1 20 w = b2 (wAt (wL tl tc nT) w).2.2.2
def RK (ap : Nat → Nat → Nat) (σ : Sg) : Prop := ∀ a, a < 24 → ∀ b, b < 24 → ap a b ≤ 9 ∧ σ.1 (24 + a) b = nI (ap a b) ∧ σ.1 255 (24 * a + b) = nI (ap a b)
def dig (x : Int32) (m : Nat) : Int32 := (x >>> ((5 * nI m) &&& 31)) &&& 31
def RA (σ : Sg) : Prop := ∃ nA : Nat, nA ≤ 8 ∧ σ.1 102 1 = nI nA ∧ σ.1 245 20 = nI nA ∧ ∀ a, a < nA → ∀ m, m < 4 → σ.1 (104 + a) m = dig (σ.1 261 a) m - dig (σ.1 262 a) m
def RN (nN : Nat) (nn pk : Nat → Nat) (σ : Sg) : Prop := nN ≤ 4 ∧ σ.1 115 3 = nI nN ∧ σ.1 245 27 = nI nN ∧ ∀ a, a < nN → 1 ≤ nn a ∧ nn a ≤ 8 ∧ pk a < 4 ^ nn a ∧ σ.1 121 a = nI (nn a) ∧ σ.1 266 a = nI (nn a) ∧ σ.1 267 a = nI (pk a) ∧ ∀ p, p < nn a → σ.1 (117 + a) p = nI (pk a / 4 ^ (nn a - 1 - p) % 4)
def RW (nW : Nat) (wn ws : Nat → Nat) (σ : Sg) : Prop := nW ≤ 12 ∧ σ.1 122 2 = nI nW ∧ σ.1 245 30 = nI nW ∧ (∀ w, w < nW → 1 ≤ wn w ∧ wn w ≤ 6 ∧ ws w < 4 ^ wn w ∧ σ.1 268 w = nI (wn w) ∧ σ.1 269 w = nI (ws w)) ∧
  ∀ key, key < 8192 → ((σ.2 123 (key / 64)).toBitVec.getLsbD (key % 64) = true ↔ ∃ w, w < nW ∧ key = 4 ^ wn w + ws w)
def RP (len : Nat) (by' : Nat → Nat) (σ : Sg) : Prop := len ≤ 160 ∧ σ.1 228 1 = nI len ∧ σ.1 245 45 = nI len ∧ ∀ i, i < len → by' i < 256 ∧ σ.1 276 i = nI (by' i) ∧ σ.1 229 i = (nI (by' i)).toInt8.toInt32
/-- how deep: from the bits of those on which each hangs -/
def dpt (on dep : Nat → Nat) (k : Nat) : Nat → Nat
  | 0 => 0
  | j + 1 => if (on k).testBit j = true ∧ dpt on dep k j < dep j + 1 then dep j + 1 else dpt on dep k j
def RC (nC day : Nat) (kd nr cm gn on dep : Nat → Nat) (gd : Nat → Bool) (σ : Sg) : Prop := nC ≤ 20 ∧ day ≤ 99 ∧ σ.1 230 7 = nI nC ∧ σ.1 245 52 = nI nC ∧ σ.1 230 11 = nI day ∧ σ.1 245 58 = nI day ∧ σ.1 230 10 = σ.1 245 50 ∧
  (∀ k, k < nC → kd k < 5 ∧ nr k < 100 ∧ cm k ≤ day ∧ gn k ≤ day ∧ on k < 2 ^ k ∧ dep k = dpt on dep k k ∧ dep k ≤ k ∧ σ.1 231 k = nI (kd k) ∧ σ.1 277 k = nI (kd k) ∧ σ.1 232 k = nI (nr k) ∧ σ.1 278 k = nI (nr k) ∧ σ.1 233 k = nI (cm k) ∧ σ.1 279 k = nI (cm k) ∧
    σ.1 234 k = (if gd k = true then nI (gn k) else -4) ∧ σ.1 280 k = (if gd k = true then nI (gn k) else -4) ∧ σ.1 235 k = nI (on k) ∧ σ.1 281 k = nI (on k) ∧ σ.1 236 k = nI (dep k)) ∧
  ∀ k, k < nC → ∀ j, j < nC → (on j).testBit k = true → gd k = true → gd j = true
def RS (σ : Sg) : Prop := ∀ k, k < 4 → (σ.1 239 k = -4 ∧ σ.1 283 k = -4) ∨ ∃ l n : Nat, l < 3 ∧ n ≤ 60 ∧ σ.1 238 k = nI l ∧ σ.1 239 k = nI n ∧ σ.1 283 k = nI l ∧ σ.1 284 k = nI n ∧ ∀ i, i < n → σ.1 (241 + k) i = σ.1 285 (60 * k + i)
/-! frames -/
section FR
variable {σ σ' : Sg}
theorem RF.fr {nF lk : Nat} {ft : Nat → Nat} (hs : Sm 1 σ σ') (h : RF nF lk ft σ) : RF nF lk ft σ' := by
  obtain ⟨h1, h2, h3, h4, h5, h6, h7⟩ := h
  refine ⟨h1, h2, ?_, ?_, ?_, ?_, fun i hi => ?_⟩
  · rw [hs.1 1 3 rfl]; exact h3
  · rw [hs.1 1 4 rfl]; exact h4
  · rw [hs.1 245 0 rfl]; exact h5
  · rw [hs.1 245 2 rfl]; exact h6
  · rw [hs.1 2 i rfl, hs.1 246 i rfl, hs.1 3 i rfl]; exact h7 i hi
theorem RT.fr {nF nT : Nat} {tl : Nat → Nat} {tc : Nat → Nat → Int32} (hs : Sm 2 σ σ') (h : RT nF nT tl tc σ) : RT nF nT tl tc σ' := by
  obtain ⟨h1, h2, h3, h4, h5, h6⟩ := h
  refine ⟨h1, ?_, ?_, fun t ht => ?_, ?_, fun w hw => ?_⟩
  · rw [hs.1 5 4 rfl]; exact h2
  · rw [hs.1 245 4 rfl]; exact h3
  · obtain ⟨a1, a2, a3, a4, a5⟩ := h4 t ht
    refine ⟨a1, a2, ?_, ?_, fun c hc => ?_⟩
    · rw [hs.1 16 t rfl]; exact a3
    · rw [hs.1 248 t rfl]; exact a4
    · rw [hs.1 (8 + t) c (modr_8 (by omega)), hs.1 249 _ rfl]; exact a5 c hc
  · rw [hs.1 5 9 rfl]; exact h5
  · rw [hs.1 17 w rfl, hs.1 18 w rfl, hs.1 19 w rfl, hs.1 20 w rfl]; exact h6 w hw
theorem RK.fr {ap : Nat → Nat → Nat} (hs : Sm 3 σ σ') (h : RK ap σ) : RK ap σ' := by
  intro a ha b hb
  rw [hs.1 (24 + a) b (modr_24 ha), hs.1 255 _ rfl]
  exact h a ha b hb
theorem RA.fr (hs : Sm 4 σ σ') (h : RA σ) : RA σ' := by
  obtain ⟨nA, h1, h2, h3, h4⟩ := h
  refine ⟨nA, h1, ?_, ?_, fun a ha m hm => ?_⟩
  · rw [hs.1 102 1 rfl]; exact h2
  · rw [hs.1 245 20 rfl]; exact h3
  · rw [hs.1 (104 + a) m (modr_104 (by omega)), hs.1 261 a rfl, hs.1 262 a rfl]; exact h4 a ha m hm
theorem RN.fr {nN : Nat} {nn pk : Nat → Nat} (hs : Sm 5 σ σ') (h : RN nN nn pk σ) : RN nN nn pk σ' := by
  obtain ⟨h1, h2, h3, h4⟩ := h
  refine ⟨h1, ?_, ?_, fun a ha => ?_⟩
  · rw [hs.1 115 3 rfl]; exact h2
  · rw [hs.1 245 27 rfl]; exact h3
  · obtain ⟨a1, a2, a3, a4, a5, a6, a7⟩ := h4 a ha
    refine ⟨a1, a2, a3, ?_, ?_, ?_, fun p hp => ?_⟩
    · rw [hs.1 121 a rfl]; exact a4
    · rw [hs.1 266 a rfl]; exact a5
    · rw [hs.1 267 a rfl]; exact a6
    · rw [hs.1 (117 + a) p (modr_117 (by omega))]; exact a7 p hp
theorem RW.fr {nW : Nat} {wn ws : Nat → Nat} (hs : Sm 6 σ σ') (h : RW nW wn ws σ) : RW nW wn ws σ' := by
  obtain ⟨h1, h2, h3, h4, h5⟩ := h
  refine ⟨h1, ?_, ?_, fun w hw => ?_, fun key hk => ?_⟩
  · rw [hs.1 122 2 rfl]; exact h2
  · rw [hs.1 245 30 rfl]; exact h3
  · rw [hs.1 268 w rfl, hs.1 269 w rfl]; exact h4 w hw
  · rw [hs.2 123 _ rfl]; exact h5 key hk
theorem RP.fr {len : Nat} {by' : Nat → Nat} (hs : Sm 7 σ σ') (h : RP len by' σ) : RP len by' σ' := by
  obtain ⟨h1, h2, h3, h4⟩ := h
  refine ⟨h1, ?_, ?_, fun i hi => ?_⟩
  · rw [hs.1 228 1 rfl]; exact h2
  · rw [hs.1 245 45 rfl]; exact h3
  · rw [hs.1 276 i rfl, hs.1 229 i rfl]; exact h4 i hi
theorem RC.fr {nC day : Nat} {kd nr cm gn on dep : Nat → Nat} {gd : Nat → Bool} (hs : Sm 8 σ σ') (h : RC nC day kd nr cm gn on dep gd σ) : RC nC day kd nr cm gn on dep gd σ' := by
  obtain ⟨h1, h2, h3, h4, h5, h6, h7, h8, h9⟩ := h
  refine ⟨h1, h2, ?_, ?_, ?_, ?_, ?_, fun k hk => ?_, h9⟩
  · rw [hs.1 230 7 rfl]; exact h3
  · rw [hs.1 245 52 rfl]; exact h4
  · rw [hs.1 230 11 rfl]; exact h5
  · rw [hs.1 245 58 rfl]; exact h6
  · rw [hs.1 230 10 rfl, hs.1 245 50 rfl]; exact h7
  · rw [hs.1 231 k rfl, hs.1 277 k rfl, hs.1 232 k rfl, hs.1 278 k rfl, hs.1 233 k rfl, hs.1 279 k rfl, hs.1 234 k rfl, hs.1 280 k rfl, hs.1 235 k rfl, hs.1 281 k rfl, hs.1 236 k rfl]; exact h8 k hk
theorem RS.fr (hs : Sm 9 σ σ') (h : RS σ) : RS σ' := by
  intro k hk
  rcases h k hk with ⟨a, b⟩ | ⟨l, n, h1, h2, h3, h4, h5, h6, h7⟩
  · left; rw [hs.1 239 k rfl, hs.1 283 k rfl]; exact ⟨a, b⟩
  · right
    refine ⟨l, n, h1, h2, ?_, ?_, ?_, ?_, fun i hi => ?_⟩
    · rw [hs.1 238 k rfl]; exact h3
    · rw [hs.1 239 k rfl]; exact h4
    · rw [hs.1 283 k rfl]; exact h5
    · rw [hs.1 284 k rfl]; exact h6
    · rw [hs.1 (241 + k) i (modr_241 hk), hs.1 285 _ rfl]; exact h7 i hi
end FR
def RFT (σ : Sg) : Prop := ∃ (nF lk : Nat) (ft : Nat → Nat) (nT : Nat) (tl : Nat → Nat) (tc : Nat → Nat → Int32), RF nF lk ft σ ∧ RT nF nT tl tc σ
def RK' (σ : Sg) : Prop := ∃ ap, RK ap σ
def RN' (σ : Sg) : Prop := ∃ nN nn pk, RN nN nn pk σ
def RW' (σ : Sg) : Prop := ∃ nW wn ws, RW nW wn ws σ
def RP' (σ : Sg) : Prop := ∃ len by', RP len by' σ
def RC' (σ : Sg) : Prop := ∃ nC day kd nr cm gn on dep gd, RC nC day kd nr cm gn on dep gd σ
def Rel (σ : Sg) : Prop := RFT σ ∧ RK' σ ∧ RA σ ∧ RN' σ ∧ RW' σ ∧ RP' σ ∧ RC' σ ∧ RS σ
section FR2
variable {σ σ' : Sg}
theorem RFT.fr (h1 : Sm 1 σ σ') (h2 : Sm 2 σ σ') (h : RFT σ) : RFT σ' := by
  obtain ⟨nF, lk, ft, nT, tl, tc, a, b⟩ := h
  exact ⟨nF, lk, ft, nT, tl, tc, a.fr h1, b.fr h2⟩
theorem RK'.fr (hs : Sm 3 σ σ') (h : RK' σ) : RK' σ' := by obtain ⟨ap, a⟩ := h; exact ⟨ap, a.fr hs⟩
theorem RN'.fr (hs : Sm 5 σ σ') (h : RN' σ) : RN' σ' := by obtain ⟨nN, nn, pk, a⟩ := h; exact ⟨nN, nn, pk, a.fr hs⟩
theorem RW'.fr (hs : Sm 6 σ σ') (h : RW' σ) : RW' σ' := by obtain ⟨nW, wn, ws, a⟩ := h; exact ⟨nW, wn, ws, a.fr hs⟩
theorem RP'.fr (hs : Sm 7 σ σ') (h : RP' σ) : RP' σ' := by obtain ⟨len, by', a⟩ := h; exact ⟨len, by', a.fr hs⟩
theorem RC'.fr (hs : Sm 8 σ σ') (h : RC' σ) : RC' σ' := by
  obtain ⟨nC, day, kd, nr, cm, gn, on, dep, gd, a⟩ := h
  exact ⟨nC, day, kd, nr, cm, gn, on, dep, gd, a.fr hs⟩
theorem Rel.q (h : Rel σ) (c : Chg [0] σ σ') : Rel σ' :=
  ⟨h.1.fr (c.sm (by decide)) (c.sm (by decide)), h.2.1.fr (c.sm (by decide)), h.2.2.1.fr (c.sm (by decide)), h.2.2.2.1.fr (c.sm (by decide)), h.2.2.2.2.1.fr (c.sm (by decide)), h.2.2.2.2.2.1.fr (c.sm (by decide)), h.2.2.2.2.2.2.1.fr (c.sm (by decide)), h.2.2.2.2.2.2.2.fr (c.sm (by decide))⟩
theorem Rel.m12 (h : Rel σ) (c : Chg [0, 1, 2] σ σ') (n : RFT σ') : Rel σ' :=
  ⟨n, h.2.1.fr (c.sm (by decide)), h.2.2.1.fr (c.sm (by decide)), h.2.2.2.1.fr (c.sm (by decide)), h.2.2.2.2.1.fr (c.sm (by decide)), h.2.2.2.2.2.1.fr (c.sm (by decide)), h.2.2.2.2.2.2.1.fr (c.sm (by decide)), h.2.2.2.2.2.2.2.fr (c.sm (by decide))⟩
theorem Rel.m3 (h : Rel σ) (c : Chg [0, 3] σ σ') (n : RK' σ') : Rel σ' :=
  ⟨h.1.fr (c.sm (by decide)) (c.sm (by decide)), n, h.2.2.1.fr (c.sm (by decide)), h.2.2.2.1.fr (c.sm (by decide)), h.2.2.2.2.1.fr (c.sm (by decide)), h.2.2.2.2.2.1.fr (c.sm (by decide)), h.2.2.2.2.2.2.1.fr (c.sm (by decide)), h.2.2.2.2.2.2.2.fr (c.sm (by decide))⟩
theorem Rel.m4 (h : Rel σ) (c : Chg [0, 4] σ σ') (n : RA σ') : Rel σ' :=
  ⟨h.1.fr (c.sm (by decide)) (c.sm (by decide)), h.2.1.fr (c.sm (by decide)), n, h.2.2.2.1.fr (c.sm (by decide)), h.2.2.2.2.1.fr (c.sm (by decide)), h.2.2.2.2.2.1.fr (c.sm (by decide)), h.2.2.2.2.2.2.1.fr (c.sm (by decide)), h.2.2.2.2.2.2.2.fr (c.sm (by decide))⟩
theorem Rel.m5 (h : Rel σ) (c : Chg [0, 5] σ σ') (n : RN' σ') : Rel σ' :=
  ⟨h.1.fr (c.sm (by decide)) (c.sm (by decide)), h.2.1.fr (c.sm (by decide)), h.2.2.1.fr (c.sm (by decide)), n, h.2.2.2.2.1.fr (c.sm (by decide)), h.2.2.2.2.2.1.fr (c.sm (by decide)), h.2.2.2.2.2.2.1.fr (c.sm (by decide)), h.2.2.2.2.2.2.2.fr (c.sm (by decide))⟩
theorem Rel.m6 (h : Rel σ) (c : Chg [0, 6] σ σ') (n : RW' σ') : Rel σ' :=
  ⟨h.1.fr (c.sm (by decide)) (c.sm (by decide)), h.2.1.fr (c.sm (by decide)), h.2.2.1.fr (c.sm (by decide)), h.2.2.2.1.fr (c.sm (by decide)), n, h.2.2.2.2.2.1.fr (c.sm (by decide)), h.2.2.2.2.2.2.1.fr (c.sm (by decide)), h.2.2.2.2.2.2.2.fr (c.sm (by decide))⟩
theorem Rel.m7 (h : Rel σ) (c : Chg [0, 7] σ σ') (n : RP' σ') : Rel σ' :=
  ⟨h.1.fr (c.sm (by decide)) (c.sm (by decide)), h.2.1.fr (c.sm (by decide)), h.2.2.1.fr (c.sm (by decide)), h.2.2.2.1.fr (c.sm (by decide)), h.2.2.2.2.1.fr (c.sm (by decide)), n, h.2.2.2.2.2.2.1.fr (c.sm (by decide)), h.2.2.2.2.2.2.2.fr (c.sm (by decide))⟩
theorem Rel.m78 (h : Rel σ) (c : Chg [0, 7, 8] σ σ') (n : RP' σ') (n2 : RC' σ') : Rel σ' :=
  ⟨h.1.fr (c.sm (by decide)) (c.sm (by decide)), h.2.1.fr (c.sm (by decide)), h.2.2.1.fr (c.sm (by decide)), h.2.2.2.1.fr (c.sm (by decide)), h.2.2.2.2.1.fr (c.sm (by decide)), n, n2, h.2.2.2.2.2.2.2.fr (c.sm (by decide))⟩
theorem Rel.m8 (h : Rel σ) (c : Chg [0, 8] σ σ') (n : RC' σ') : Rel σ' :=
  ⟨h.1.fr (c.sm (by decide)) (c.sm (by decide)), h.2.1.fr (c.sm (by decide)), h.2.2.1.fr (c.sm (by decide)), h.2.2.2.1.fr (c.sm (by decide)), h.2.2.2.2.1.fr (c.sm (by decide)), h.2.2.2.2.2.1.fr (c.sm (by decide)), n, h.2.2.2.2.2.2.2.fr (c.sm (by decide))⟩
theorem Rel.m9 (h : Rel σ) (c : Chg [0, 9] σ σ') (n : RS σ') : Rel σ' :=
  ⟨h.1.fr (c.sm (by decide)) (c.sm (by decide)), h.2.1.fr (c.sm (by decide)), h.2.2.1.fr (c.sm (by decide)), h.2.2.2.1.fr (c.sm (by decide)), h.2.2.2.2.1.fr (c.sm (by decide)), h.2.2.2.2.2.1.fr (c.sm (by decide)), h.2.2.2.2.2.2.1.fr (c.sm (by decide)), n⟩
end FR2
/-- one call of the class and one of the reference: one answer, and what they hold stays alike -/
def OPi (M M' : MD) (as : List Value) (σ : Sg) : Prop := EvM 40 M (.ref 0 :: as) σ (fun r σ1 => ∃ v : Int32, r = some (.int v) ∧ EvM 40 M' (.ref 245 :: as) σ1 (fun r2 σ2 => r2 = some (.int v) ∧ Rel σ2))
def OPl (M M' : MD) (as : List Value) (σ : Sg) : Prop := EvM 40 M (.ref 0 :: as) σ (fun r σ1 => ∃ v : Int64, r = some (.long v) ∧ EvM 40 M' (.ref 245 :: as) σ1 (fun r2 σ2 => r2 = some (.long v) ∧ Rel σ2))
/-- a row alone has changed -/
def Rw (k : Nat) (σ σ' : Sg) : Prop := (∀ a, a ≠ k → ∀ j, σ'.1 a j = σ.1 a j) ∧ σ'.2 = σ.2
theorem Rw.rf {k : Nat} {σ : Sg} : Rw k σ σ := ⟨fun _ _ _ => rfl, rfl⟩
theorem Rw.u1 {k j : Nat} {x : Int32} {σ σ' : Sg} (h : Rw k σ σ') : Rw k σ (u1 σ' k j x) := ⟨fun a ha b => by rw [u1_cell ha]; exact h.1 a ha b, h.2⟩
theorem Rw.chg {S : List Nat} {k : Nat} {σ σ' σ0 : Sg} (h : Rw k σ σ') (hm : ∀ j, modOf k j ∈ S) (h0 : Chg S σ0 σ) : Chg S σ0 σ' := by
  refine ⟨fun a b hab => ?_, fun a b hab => ?_⟩
  · rw [h.1 a (fun e => hab (by rw [e]; exact hm b))]; exact h0.1 a b hab
  · rw [h.2]; exact h0.2 a b hab
