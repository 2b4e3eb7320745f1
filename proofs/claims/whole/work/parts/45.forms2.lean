/-! ===== forms, signs: the calls ===== -/
def cnt (p : Nat → Bool) : Nat → Nat
  | 0 => 0
  | n + 1 => cnt p n + if p n = true then 1 else 0
theorem cnt_le (p : Nat → Bool) : ∀ n, cnt p n ≤ n := by
  intro n
  induction n with
  | zero => exact Nat.le_refl _
  | succ n ih =>
    show cnt p n + (if p n = true then 1 else 0) ≤ _
    by_cases h : p n = true
    · rw [if_pos h]; omega
    · rw [if_neg h]; omega
theorem cnt_s (p : Nat → Bool) (n : Nat) : cnt p (n + 1) = cnt p n + if p n = true then 1 else 0 := rfl
theorem rep_le {ft : Nat → Nat} {nF lk x : Nat} : rep ft nF lk x ≤ x := (Gg.gO nF).1 x
theorem rep_rep {ft : Nat → Nat} {nF lk x : Nat} : rep ft nF lk (rep ft nF lk x) = rep ft nF lk x := (Gg.gO nF).2.1 x
theorem vin {x : Int32} {n : Nat} (h : vp_in x n) (hn : n < 2147483648) : ∃ k, k < n ∧ x = nI k := vp_in_of h (by omega)
theorem nvin {k n : Nat} (h : k < n) (hn : n < 2147483648) : vp_in (nI k) n := vp_in_nI h (by omega)
section F2
variable {N : Nat} {σ : Sg} {Q : Option Value → Sg → Prop}
theorem C10_isForm {nF : Nat} {x : Int32} (hs : σ.1 245 0 = nI nF) (hn : nF ≤ 24) (h1 : vp_in x nF → Q (some (.int 1)) σ) (h0 : ¬ vp_in x nF → Q (some (.int 0)) σ) : EvM (N + 1) mX10_isForm [.ref 245, .int x] σ Q := by
  refine EX10_isForm ⟨fun c => h1 ?_, fun c => h0 ?_⟩ <;> rw [hs] at c <;> clear h1 h0 hs <;> ((try simp (disch := (first | omega | ((try simp (disch := omega) only [i_nI, Int32.reduceToInt, i_l]) <;> omega))) only [i_le, i_lt, i_eq, Int32.reduceToInt, i_nI, i_l, li0, vp_in_iff, i_sub, i_add] at *) <;> omega)
theorem C2_isForm' {nF : Nat} {x : Int32} (hs : σ.1 1 3 = nI nF) (hn : nF ≤ 24) : (0 ≤ x.toInt ∧ x.toInt < (σ.1 1 3).toInt) ↔ vp_in x nF := by
  rw [hs, vp_in_iff, i_nI (by omega)]
theorem C_members {nF s : Nat} {g : Nat → Nat} (hs : σ.1 1 3 = nI nF) (hn : nF ≤ 24) (hg : ∀ x, x < nF → σ.1 3 x = nI (g x)) (hb : ∀ x, g x ≤ x) (hs2 : s < 24) (h : Q (some (.int (nI (cnt (fun f => g f == s) nF)))) σ) : EvM N mX2_membersOf [.ref 1, .int (nI s)] σ Q := by
  have L : ∀ i, i ≤ nF → KX2_membersOf_4 N σ Q (nI s) (nI (cnt (fun f => g f == s) i)) (nI i) := by
    refine for_up ?_ ?_
    · exact BX2_membersOf_4 ⟨fun _ => h, fun q => absurd (by rw [hs]; exact nI_le (Nat.le_refl _) (by omega)) q⟩
    · intro i hi ih
      refine BX2_membersOf_4 ⟨fun q => absurd q (by rw [hs]; exact nI_ge hi (by omega)), fun _ => ⟨nvin (by omega) (by omega), ?_⟩⟩
      have := hb i
      rw [cl (by omega), hg i hi, nI_1, nI_1]
      refine ⟨fun q => ?_, fun q => ?_⟩
      · have e : g i = s := (nI_eq (by omega) (by omega)).mp q
        rw [cnt_s, if_pos (by simp [e])] at ih; exact ih
      · have e : ¬ g i = s := fun z => q (by rw [z])
        rw [cnt_s, if_neg (by simp [e])] at ih; exact ih
  exact EX2_membersOf (L 0 (by omega))
theorem C_members0 {nF : Nat} {g : Nat → Nat} (hs : σ.1 1 3 = nI nF) (hn : nF ≤ 24) (hg : ∀ x, x < nF → σ.1 3 x = nI (g x)) (hb : ∀ x, g x ≤ x) (h : Q (some (.int 0)) σ) : EvM N mX2_membersOf [.ref 1, .int (-4)] σ Q := by
  have L : ∀ i, i ≤ nF → KX2_membersOf_4 N σ Q (-4) 0 (nI i) := by
    refine for_up ?_ ?_
    · exact BX2_membersOf_4 ⟨fun _ => h, fun q => absurd (by rw [hs]; exact nI_le (Nat.le_refl _) (by omega)) q⟩
    · intro i hi ih
      refine BX2_membersOf_4 ⟨fun q => absurd q (by rw [hs]; exact nI_ge hi (by omega)), fun _ => ⟨nvin (by omega) (by omega), ?_⟩⟩
      have := hb i
      rw [cl (by omega), hg i hi, nI_1]
      refine ⟨fun q => ?_, fun q => ih⟩
      exfalso; clear hg hb h ih hs; ((try simp (disch := (first | omega | ((try simp (disch := omega) only [i_nI, Int32.reduceToInt, i_l]) <;> omega))) only [i_le, i_lt, i_eq, Int32.reduceToInt, i_nI, i_l, li0, vp_in_iff, i_sub, i_add] at *) <;> omega)
  exact EX2_membersOf (L 0 (by omega))
theorem C_groups {nF : Nat} {g : Nat → Nat} (hs : σ.1 1 3 = nI nF) (hn : nF ≤ 24) (hg : ∀ x, x < nF → σ.1 3 x = nI (g x)) (hb : ∀ x, g x ≤ x) (h : Q (some (.int (nI (cnt (fun f => g f == f) nF)))) σ) : EvM N mX2_groups [.ref 1] σ Q := by
  have L : ∀ i, i ≤ nF → KX2_groups_4 N σ Q (nI (cnt (fun f => g f == f) i)) (nI i) := by
    refine for_up ?_ ?_
    · exact BX2_groups_4 ⟨fun _ => h, fun q => absurd (by rw [hs]; exact nI_le (Nat.le_refl _) (by omega)) q⟩
    · intro i hi ih
      refine BX2_groups_4 ⟨fun q => absurd q (by rw [hs]; exact nI_ge hi (by omega)), fun _ => ⟨nvin (by omega) (by omega), ?_⟩⟩
      have := hb i
      rw [cl (by omega), hg i hi, nI_1, nI_1]
      rw [cnt_s] at ih
      refine ⟨fun q => ?_, fun q => ?_⟩
      · have e : g i = i := (nI_eq (by omega) (by omega)).mp q
        rw [if_pos (by simp [e])] at ih; exact ih
      · have e : ¬ g i = i := fun z => q (by rw [z])
        rw [if_neg (by simp [e])] at ih; exact ih
  exact EX2_groups (L 0 (by omega))
theorem M_signMany {nF : Nat} {g : Nat → Nat} (hs : σ.1 245 0 = nI nF) (hn : nF ≤ 24) (hg : ∀ x, x < nF → σ.1 247 x = nI (g x)) (hb : ∀ x, g x ≤ x) (h : Q (some (.int (nI (cnt (fun f => g f == f) nF)))) σ) : EvM N mX10_signMany [.ref 245] σ Q := by
  have L : ∀ i, i ≤ nF → KX10_signMany_4 N σ Q (nI (cnt (fun f => g f == f) i)) (nI i) := by
    refine for_up ?_ ?_
    · exact BX10_signMany_4 ⟨fun _ => h, fun q => absurd (by rw [hs]; exact nI_le (Nat.le_refl _) (by omega)) q⟩
    · intro i hi ih
      refine BX10_signMany_4 ⟨fun q => absurd q (by rw [hs]; exact nI_ge hi (by omega)), fun _ => ⟨nvin (by omega) (by omega), ?_⟩⟩
      have := hb i
      rw [cl (by omega), hg i hi, nI_1, nI_1, Int32.add_zero]
      rw [cnt_s] at ih
      refine ⟨fun q => ?_, fun q => ?_⟩
      · have e : g i = i := (nI_eq (by omega) (by omega)).mp q
        rw [if_pos (by simp [e])] at ih; exact ih
      · have e : ¬ g i = i := fun z => q (by rw [z])
        rw [if_neg (by simp [e])] at ih; exact ih
  exact EX10_signMany (L 0 (by omega))
/-- the greatest sign so far, and its forms -/
def grt (m : Nat → Nat) : Nat → Int32 × Nat
  | 0 => (-4, 0)
  | s + 1 => if (grt m s).2 < m s then (nI s, m s) else grt m s
theorem grt_s (m : Nat → Nat) (s : Nat) : grt m (s + 1) = if (grt m s).2 < m s then (nI s, m s) else grt m s := rfl
theorem grt_ok (m : Nat → Nat) : ∀ s, ((grt m s).1 = -4 ∧ (grt m s).2 = 0) ∨ ∃ k, k < s ∧ (grt m s).1 = nI k ∧ (grt m s).2 = m k := by
  intro s
  induction s with
  | zero => exact Or.inl ⟨rfl, rfl⟩
  | succ s ih =>
    rw [grt_s]
    by_cases h : (grt m s).2 < m s
    · rw [if_pos h]; exact Or.inr ⟨s, by omega, rfl, rfl⟩
    · rw [if_neg h]
      rcases ih with ih | ⟨k, a, b, c⟩
      · exact Or.inl ih
      · exact Or.inr ⟨k, by omega, b, c⟩
theorem grt_le (m : Nat → Nat) (B : Nat) (hm : ∀ s, m s ≤ B) : ∀ s, (grt m s).2 ≤ B := by
  intro s
  rcases grt_ok m s with h | ⟨k, _, _, h⟩
  · omega
  · rw [h]; exact hm k
theorem C_greatest {nF : Nat} {g : Nat → Nat} (hs : σ.1 1 3 = nI nF) (hn : nF ≤ 24) (hg : ∀ x, x < nF → σ.1 3 x = nI (g x)) (hb : ∀ x, g x ≤ x) (h : Q (some (.int (grt (fun s => cnt (fun f => g f == s) nF) nF).1)) σ) : EvM (N + 1) mX2_greatest [.ref 1] σ Q := by
  have hB : ∀ s, (grt (fun s => cnt (fun f => g f == s) nF) s).2 ≤ nF := grt_le _ nF (fun s => cnt_le _ _)
  have L : ∀ i, i ≤ nF → KX2_greatest_7 N σ Q (grt (fun s => cnt (fun f => g f == s) nF) i).1 (nI (grt (fun s => cnt (fun f => g f == s) nF) i).2) (nI i) := by
    refine for_up ?_ ?_
    · exact BX2_greatest_7 ⟨fun _ => h, fun q => absurd (by rw [hs]; exact nI_le (Nat.le_refl _) (by omega)) q⟩
    · intro i hi ih
      refine BX2_greatest_7 ⟨fun q => absurd q (by rw [hs]; exact nI_ge hi (by omega)), fun _ => C_members hs hn hg hb (by omega) ⟨_, rfl, ?_⟩⟩
      rw [nI_1]
      rw [grt_s] at ih
      have h1 := hB i
      have h2 := cnt_le (fun f => g f == i) nF
      refine ⟨fun q => ?_, fun q => ?_⟩
      · have := (nI_leI (by omega) (by omega)).mp q
        rw [if_neg (by omega)] at ih; exact ih
      · have : ¬ cnt (fun f => g f == i) nF ≤ (grt (fun s => cnt (fun f => g f == s) nF) i).2 := fun z => q (nI_le z (by omega))
        rw [if_pos (by omega)] at ih; exact ih
  exact EX2_greatest (L 0 (by omega))
/-- the reference's two loops over the signs -/
theorem M_signs {nF : Nat} {g : Nat → Nat} {w : Nat} (hw : w < 3) (hs : σ.1 245 0 = nI nF) (hn : nF ≤ 24) (hg : ∀ x, x < nF → σ.1 247 x = nI (g x)) (hb : ∀ x, g x ≤ x)
    (h : Q (some (.int (if w = 0 then nI (cnt (fun f => g f == f) nF) else if w = 1 then nI (grt (fun s => cnt (fun f => g f == s) nF) nF).2 else (grt (fun s => cnt (fun f => g f == s) nF) nF).1))) σ) : KX10_signs_63 N σ Q (nI w) 0 (-4) 0 := by
  have hB : ∀ s, (grt (fun s => cnt (fun f => g f == s) nF) s).2 ≤ nF := grt_le _ nF (fun s => cnt_le _ _)
  have L : ∀ i, i ≤ nF → KX10_signs_63 N σ Q (nI w) (nI (grt (fun s => cnt (fun f => g f == s) nF) i).2) (grt (fun s => cnt (fun f => g f == s) nF) i).1 (nI i) := by
    refine for_up ?_ ?_
    · refine BX10_signs_63 ⟨fun _ => ⟨fun q => ?_, fun q => ⟨fun q2 => ?_, fun q2 => ?_⟩⟩, fun q => absurd (by rw [hs]; exact nI_le (Nat.le_refl _) (by omega)) q⟩
      · have e : w = 0 := by clear h hg hb hs; ((try simp (disch := (first | omega | ((try simp (disch := omega) only [i_nI, Int32.reduceToInt, i_l]) <;> omega))) only [i_le, i_lt, i_eq, Int32.reduceToInt, i_nI, i_l, li0, vp_in_iff, i_sub, i_add] at *) <;> omega)
        rw [if_pos e] at h
        exact M_signMany hs hn hg hb ⟨_, rfl, h⟩
      · have e0 : ¬ w = 0 := by clear h hg hb hs; ((try simp (disch := (first | omega | ((try simp (disch := omega) only [i_nI, Int32.reduceToInt, i_l]) <;> omega))) only [i_le, i_lt, i_eq, Int32.reduceToInt, i_nI, i_l, li0, vp_in_iff, i_sub, i_add] at *) <;> omega)
        have e : w = 1 := by clear h hg hb hs; ((try simp (disch := (first | omega | ((try simp (disch := omega) only [i_nI, Int32.reduceToInt, i_l]) <;> omega))) only [i_le, i_lt, i_eq, Int32.reduceToInt, i_nI, i_l, li0, vp_in_iff, i_sub, i_add] at *) <;> omega)
        rw [if_neg e0, if_pos e] at h
        exact h
      · have e0 : ¬ w = 0 := fun z => q (by rw [z]; rfl)
        have e : ¬ w = 1 := fun z => q2 (by rw [z]; rfl)
        rw [if_neg e0, if_neg e] at h
        exact h
    · intro i hi ih
      have J : ∀ j, j ≤ nF → KX10_signs_78 N σ Q (nI w) (nI (grt (fun s => cnt (fun f => g f == s) nF) i).2) (grt (fun s => cnt (fun f => g f == s) nF) i).1 (nI i) (nI (cnt (fun f => g f == i) j)) (nI j) := by
        refine for_up ?_ ?_
        · have h1 := hB i
          have h2 := cnt_le (fun f => g f == i) nF
          rw [grt_s] at ih
          refine BX10_signs_78 ⟨fun _ => ⟨fun q => ?_, fun q => ?_⟩, fun q => absurd (by rw [hs]; exact nI_le (Nat.le_refl _) (by omega)) q⟩
          · rw [nI_1]
            have := (nI_leI (by omega) (by omega)).mp q
            rw [if_neg (by omega)] at ih; exact ih
          · rw [nI_1]
            have : ¬ cnt (fun f => g f == i) nF ≤ (grt (fun s => cnt (fun f => g f == s) nF) i).2 := fun z => q (nI_le z (by omega))
            rw [if_pos (by omega)] at ih; exact ih
        · intro j hj ihj
          refine BX10_signs_78 ⟨fun q => absurd q (by rw [hs]; exact nI_ge hj (by omega)), fun _ => ⟨nvin (by omega) (by omega), ?_⟩⟩
          have := hb j
          rw [cl (by omega), hg j hj, nI_1, nI_1, Int32.add_zero]
          rw [cnt_s] at ihj
          refine ⟨fun q => ?_, fun q => ?_⟩
          · have e : g j = i := (nI_eq (by omega) (by omega)).mp q
            rw [if_pos (by simp [e])] at ihj; exact ihj
          · have e : ¬ g j = i := fun z => q (by rw [z])
            rw [if_neg (by simp [e])] at ihj; exact ihj
      exact BX10_signs_63 ⟨fun q => absurd q (by rw [hs]; exact nI_ge hi (by omega)), fun _ => J 0 (by omega)⟩
  exact L 0 (by omega)
/-- are all in one sign -/
theorem C_isOne {r nF : Nat} {g : Nat → Nat} (hy : lay r = .inl (0, 24)) (hq : r < KC) (hs : σ.1 1 3 = nI nF) (hn : nF ≤ 24) (hg : ∀ x, x < nF → σ.1 r x = nI (g x)) (hb : ∀ x, g x ≤ x) (h1 : (∀ x, x < nF → g x = 0) → Q (some (.int 1)) σ) (h0 : (∃ x, x < nF ∧ ¬ g x = 0) → Q (some (.int 0)) σ) : EvM N mX2_isOneGroup [.ref 1, .ref r] σ Q := by
  have L : ∀ i, i ≤ nF → (∀ x, x < i → g x = 0) → KX2_isOneGroup_2 N σ Q r (nI i) := by
    refine for_up ?_ ?_
    · intro h; exact BX2_isOneGroup_2 hy hq ⟨fun _ => h1 h, fun q => absurd (by rw [hs]; exact nI_le (Nat.le_refl _) (by omega)) q⟩
    · intro i hi ih h
      have := hb i
      refine BX2_isOneGroup_2 hy hq ⟨fun q => absurd q (by rw [hs]; exact nI_ge hi (by omega)), fun _ => ⟨nvin (by omega) (by omega), ?_⟩⟩
      rw [cl (by omega), hg i hi, nI_1]
      refine ⟨fun q => ih (fun x hx => ?_), fun q => h0 ⟨i, hi, fun z => q (by rw [z]; rfl)⟩⟩
      have e : g i = 0 := (nI_eq (a := g i) (b := 0) (by omega) (by omega)).mp q
      by_cases ex : x = i
      · rw [ex]; exact e
      · exact h x (by omega)
  exact EX2_isOneGroup hy hq (L 0 (by omega) (fun x hx => absurd hx (by omega)))
theorem one_cnt {nF : Nat} {g : Nat → Nat} (hb : ∀ x, g x ≤ x) (hi : ∀ x, g (g x) = g x) : (∀ x, x < nF → g x = 0) ↔ cnt (fun f => g f == f) nF ≤ 1 := by
  have c1 : ∀ n, (∀ x, x < n → g x = 0) → cnt (fun f => g f == f) n ≤ 1 ∧ (n = 0 → cnt (fun f => g f == f) n = 0) := by
    intro n
    induction n with
    | zero => intro _; exact ⟨by unfold cnt; omega, fun _ => rfl⟩
    | succ n ih =>
      intro h
      obtain ⟨a, b⟩ := ih (fun x hx => h x (by omega))
      rw [cnt_s]
      refine ⟨?_, fun z => by omega⟩
      by_cases e : n = 0
      · rw [b e]; by_cases q : (g n == n) = true
        · rw [if_pos q]; omega
        · rw [if_neg q]; omega
      · rw [if_neg (by rw [h n (by omega)]; simp; omega)]; omega
  have c2 : ∀ n y, y < n → g y = y → 1 ≤ cnt (fun f => g f == f) n := by
    intro n
    induction n with
    | zero => intro y hy; omega
    | succ n ih =>
      intro y hy e
      rw [cnt_s]
      by_cases q : y = n
      · rw [if_pos (by rw [← q]; simp [e])]; omega
      · have := ih y (by omega) e; omega
  have c3 : ∀ n y z, y < z → z < n → g y = y → g z = z → 2 ≤ cnt (fun f => g f == f) n := by
    intro n
    induction n with
    | zero => intro y z _ hz; omega
    | succ n ih =>
      intro y z hy hz e1 e2
      rw [cnt_s]
      by_cases q : z = n
      · have := c2 n y (by omega) e1
        rw [if_pos (by rw [← q]; simp [e2])]; omega
      · have := ih y z hy (by omega) e1 e2; omega
  refine ⟨fun h => (c1 nF h).1, fun h x hx => ?_⟩
  rcases Nat.eq_zero_or_pos (g x) with e | e
  · exact e
  · have := c3 nF 0 (g x) e (Nat.lt_of_le_of_lt (hb x) hx) (by have := hb 0; omega) (hi x)
    omega
end F2
theorem RT.mono {nF nF' nT : Nat} {tl : Nat → Nat} {tc : Nat → Nat → Int32} {σ : Sg} (hle : nF ≤ nF') (h : RT nF nT tl tc σ) : RT nF' nT tl tc σ := by
  obtain ⟨h1, h2, h3, h4, h5⟩ := h
  refine ⟨h1, h2, h3, fun t ht => ?_, h5⟩
  obtain ⟨a1, a2, a3, a4, a5⟩ := h4 t ht
  refine ⟨a1, a2, a3, a4, fun c hc => ?_⟩
  obtain ⟨b1, b2⟩ := a5 c hc
  refine ⟨?_, b2⟩
  rcases b1 with b1 | b1 | ⟨f, hf, b1⟩
  · exact Or.inl b1
  · exact Or.inr (Or.inl b1)
  · exact Or.inr (Or.inr ⟨f, by omega, b1⟩)
theorem O_form {σ : Sg} (hR : Rel σ) (a : Int32) : OPi mX9_form mX10_form [.int a] σ := by
  obtain ⟨nF, lk, ft, nT, tl, tc, hF, hT⟩ := hR.1
  obtain ⟨h1, h2, h3, h4, h5, h6, h7⟩ := id hF
  refine EX9_form ?_
  by_cases hv : 0 ≤ a.toInt ∧ a.toInt ≤ 4095
  · obtain ⟨d, hd, rfl⟩ : ∃ d : Nat, d < 4096 ∧ a = nI d := ⟨a.toInt.toNat, by omega, i_of (by omega) (by omega)⟩
    have hm : (0 ≤ ((nI d).toInt64).toInt ∧ ((nI d).toInt64).toInt ≤ 4095) := by rw [i_l]; exact hv
    by_cases hn : nF < 24
    · have m1 : ∀ σ1 : Sg, σ1.1 245 0 = nI nF → Rel (u1 (u1 σ1 246 nF (nI d)) 245 0 (nI (nF + 1))) → EvM 40 mX10_form [.ref 245, .int (nI d)] σ1 (fun r2 σ2 => r2 = some (.int (nI nF)) ∧ Rel σ2) := by
        intro σ1 e1 e2
        refine EX10_form ⟨fun _ => ⟨fun q => ?_, fun _ => ?_⟩, fun q => absurd hm q⟩
        · exfalso; rw [e1] at q; clear e1 e2 h3 h4 h5 h6 h7 hm hv hR hF hT; ((try simp (disch := (first | omega | ((try simp (disch := omega) only [i_nI, Int32.reduceToInt, i_l]) <;> omega))) only [i_le, i_lt, i_eq, Int32.reduceToInt, i_nI, i_l, li0, vp_in_iff, i_sub, i_add] at *) <;> omega)
        · rw [e1, cl (by omega), u1_same, u1_cell (by decide), e1, nI_1, nI_pred]
          exact ⟨nvin (by omega) (by omega), rfl, e2⟩
      refine EX2_add ⟨fun q => ?_, fun _ => ⟨fun _ => ⟨fun _ => ?_, fun q => ?_⟩, fun q => ?_⟩⟩
      · exfalso; clear m1 h3 h4 h5 h6 h7 hR hF hT; ((try simp (disch := (first | omega | ((try simp (disch := omega) only [i_nI, Int32.reduceToInt, i_l]) <;> omega))) only [i_le, i_lt, i_eq, Int32.reduceToInt, i_nI, i_l, li0, vp_in_iff, i_sub, i_add] at *) <;> omega)
      · rw [h3, cl (by omega)]
        refine ⟨nvin (by omega) (by omega), ?_⟩
        rw [u1_cell (show 1 ≠ 2 by decide), h3, u1_slot (by decide), u1_cell (by decide), h4, nI_1]
        refine C_group (nF := nF + 1) (v := lk) (ft := fun i => if i = nF then d else ft i) lay_3 (by decide) (by decide) (by decide) (by omega) h2 u1_same (fun i hi => ?_) fun σ' g1 g2 => ⟨rfl, ?_⟩
        · rw [u1_cell (by decide)]
          by_cases e : i = nF
          · subst e; simp only [if_true]; exact ⟨hd, u1_same⟩
          · rw [if_neg e, u1_slot e]; exact ⟨(h7 i (by omega)).1, (h7 i (by omega)).2.1⟩
        · have k1 : ∀ a j, a ≠ 3 → a ≠ 1 → a ≠ 2 → σ'.1 a j = σ.1 a j := fun a j p q r => by rw [g1.1 a p, u1_cell q, u1_cell r]
          have k2 : σ'.1 1 3 = nI (nF + 1) := by rw [g1.1 1 (by decide), u1_same]
          rw [k2, nI_pred]
          refine ⟨_, rfl, _, rfl, m1 σ' (by rw [k1 245 0 (by decide) (by decide) (by decide)]; exact h5) ?_⟩
          have cc : Chg [0, 1, 2] σ (u1 (u1 σ' 246 nF (nI d)) 245 0 (nI (nF + 1))) :=
            ((g1.chg (fun j => by rw [show modOf 3 j = 1 from rfl]; decide) ((Chg.rf.u1 (by rw [show ∀ j, modOf 2 j = 1 from fun _ => rfl]; decide)).u1 (by decide))).u1 (by rw [show ∀ j, modOf 246 j = 1 from fun _ => rfl]; decide)).u1 (by decide)
          have c1 : Chg [0, 1] σ (u1 (u1 σ' 246 nF (nI d)) 245 0 (nI (nF + 1))) :=
            ((g1.chg (fun j => by rw [show modOf 3 j = 1 from rfl]; decide) ((Chg.rf.u1 (by rw [show ∀ j, modOf 2 j = 1 from fun _ => rfl]; decide)).u1 (by decide))).u1 (by rw [show ∀ j, modOf 246 j = 1 from fun _ => rfl]; decide)).u1 (by decide)
          refine hR.m12 cc ⟨nF + 1, lk, fun i => if i = nF then d else ft i, nT, tl, tc, ⟨by omega, h2, ?_, ?_, u1_same, ?_, fun i hi => ?_⟩, (hT.fr (c1.sm (by decide))).mono (by omega)⟩
          · rw [u1_cell (by decide), u1_cell (by decide)]; exact k2
          · rw [u1_cell (by decide), u1_cell (by decide), g1.1 1 (by decide), u1_slot (by decide), u1_cell (by decide)]; exact h4
          · rw [u1_slot (by decide), u1_cell (by decide), k1 245 2 (by decide) (by decide) (by decide)]; exact h6
          · rw [u1_cell (show 2 ≠ 245 by decide), u1_cell (show 2 ≠ 246 by decide), u1_cell (show 246 ≠ 245 by decide), u1_cell (show 3 ≠ 245 by decide), u1_cell (show 3 ≠ 246 by decide), g2 i hi, g1.1 2 (by decide), u1_cell (show 2 ≠ 1 by decide)]
            by_cases e : i = nF
            · subst e
              rw [show (fun j => if j = i then d else ft j) i = d from if_pos rfl]
              exact ⟨hd, u1_same, u1_same, rfl⟩
            · rw [show (fun j => if j = nF then d else ft j) i = ft i from if_neg e, u1_slot e, u1_slot e, k1 246 i (by decide) (by decide) (by decide)]
              exact ⟨(h7 i (by omega)).1, (h7 i (by omega)).2.1, (h7 i (by omega)).2.2.1, rfl⟩
      · exfalso; rw [h3] at q; clear m1 h3 h4 h5 h6 h7 hR hF hT; ((try simp (disch := (first | omega | ((try simp (disch := omega) only [i_nI, Int32.reduceToInt, i_l]) <;> omega))) only [i_le, i_lt, i_eq, Int32.reduceToInt, i_nI, i_l, li0, vp_in_iff, i_sub, i_add] at *) <;> omega)
      · exfalso; clear m1 h3 h4 h5 h6 h7 hR hF hT; ((try simp (disch := (first | omega | ((try simp (disch := omega) only [i_nI, Int32.reduceToInt, i_l]) <;> omega))) only [i_le, i_lt, i_eq, Int32.reduceToInt, i_nI, i_l, li0, vp_in_iff, i_sub, i_add] at *) <;> omega)
    · have e24 : nF = 24 := by omega
      have e : EvM 40 mX10_form [.ref 245, .int (nI d)] σ (fun r2 σ2 => r2 = some (.int (-3)) ∧ Rel σ2) := EX10_form ⟨fun _ => ⟨fun _ => ⟨rfl, hR⟩, fun q => absurd (by rw [h5, e24]; rfl) q⟩, fun q => absurd hm q⟩
      refine EX2_add ⟨fun q => ?_, fun _ => ⟨fun _ => ⟨fun q => ?_, fun q => ⟨_, rfl, _, rfl, e⟩⟩, fun q => ?_⟩⟩
      · exfalso; clear e h3 h4 h5 h6 h7 hR hF hT; ((try simp (disch := (first | omega | ((try simp (disch := omega) only [i_nI, Int32.reduceToInt, i_l]) <;> omega))) only [i_le, i_lt, i_eq, Int32.reduceToInt, i_nI, i_l, li0, vp_in_iff, i_sub, i_add] at *) <;> omega)
      · exfalso; rw [h3] at q; clear e h3 h4 h5 h6 h7 hR hF hT; ((try simp (disch := (first | omega | ((try simp (disch := omega) only [i_nI, Int32.reduceToInt, i_l]) <;> omega))) only [i_le, i_lt, i_eq, Int32.reduceToInt, i_nI, i_l, li0, vp_in_iff, i_sub, i_add] at *) <;> omega)
      · exfalso; clear e h3 h4 h5 h6 h7 hR hF hT; ((try simp (disch := (first | omega | ((try simp (disch := omega) only [i_nI, Int32.reduceToInt, i_l]) <;> omega))) only [i_le, i_lt, i_eq, Int32.reduceToInt, i_nI, i_l, li0, vp_in_iff, i_sub, i_add] at *) <;> omega)
  · have e : EvM 40 mX10_form [.ref 245, .int a] σ (fun r2 σ2 => r2 = some (.int (-1)) ∧ Rel σ2) := EX10_form ⟨fun q => absurd (by rw [i_l] at q; exact q) hv, fun _ => ⟨rfl, hR⟩⟩
    refine EX2_add ⟨fun q => ⟨_, rfl, _, rfl, e⟩, fun q0 => ⟨fun q => ?_, fun q => ⟨_, rfl, _, rfl, e⟩⟩⟩
    exfalso; clear e h3 h4 h5 h6 h7 hR hF hT; ((try simp (disch := (first | omega | ((try simp (disch := omega) only [i_nI, Int32.reduceToInt, i_l]) <;> omega))) only [i_le, i_lt, i_eq, Int32.reduceToInt, i_nI, i_l, li0, vp_in_iff, i_sub, i_add] at *) <;> omega)
theorem O_likeness {σ : Sg} (hR : Rel σ) (a : Int32) : OPi mX9_likeness mX10_likeness [.int a] σ := by
  obtain ⟨nF, lk, ft, nT, tl, tc, hF, hT⟩ := hR.1
  obtain ⟨h1, h2, h3, h4, h5, h6, h7⟩ := id hF
  refine EX9_likeness ?_
  by_cases hv : 0 ≤ a.toInt ∧ a.toInt ≤ 12
  · obtain ⟨d, hd, rfl⟩ : ∃ d : Nat, d ≤ 12 ∧ a = nI d := ⟨a.toInt.toNat, by omega, i_of (by omega) (by omega)⟩
    have hm : (0 ≤ ((nI d).toInt64).toInt ∧ ((nI d).toInt64).toInt ≤ 12) := by rw [i_l]; exact hv
    refine EX2_limitTo ⟨fun q => ?_, fun _ => ⟨fun _ => ?_, fun q => ?_⟩⟩
    · exfalso; clear h3 h4 h5 h6 h7 hR hF hT; ((try simp (disch := (first | omega | ((try simp (disch := omega) only [i_nI, Int32.reduceToInt, i_l]) <;> omega))) only [i_le, i_lt, i_eq, Int32.reduceToInt, i_nI, i_l, li0, vp_in_iff, i_sub, i_add] at *) <;> omega)
    · rw [u1_same, h4]
      refine C_group (nF := nF) (v := d) (ft := ft) lay_3 (by decide) (by decide) (by decide) h1 hd (by rw [u1_slot (by decide)]; exact h3) (fun i hi => by rw [u1_cell (by decide)]; exact ⟨(h7 i hi).1, (h7 i hi).2.1⟩) fun σ' g1 g2 => ⟨rfl, ?_⟩
      have k1 : ∀ a j, a ≠ 3 → a ≠ 1 → σ'.1 a j = σ.1 a j := fun a j p q => by rw [g1.1 a p, u1_cell q]
      refine ⟨_, rfl, _, rfl, EX10_likeness ⟨fun _ => ?_, fun q => absurd hm q⟩⟩
      rw [k1 245 2 (by decide) (by decide), h6]
      have c1 : Chg [0, 1] σ (u1 σ' 245 2 (nI d)) := (g1.chg (fun j => by rw [show modOf 3 j = 1 from rfl]; decide) (Chg.rf.u1 (by decide))).u1 (by decide)
      refine ⟨rfl, hR.m12 (c1.le (by decide)) ⟨nF, d, ft, nT, tl, tc, ⟨h1, hd, ?_, ?_, ?_, u1_same, fun i hi => ?_⟩, hT.fr (c1.sm (by decide))⟩⟩
      · rw [u1_cell (by decide), g1.1 1 (by decide), u1_slot (by decide)]; exact h3
      · rw [u1_cell (by decide), g1.1 1 (by decide), u1_same]
      · rw [u1_slot (by decide), k1 245 0 (by decide) (by decide)]; exact h5
      · rw [u1_cell (by decide), u1_cell (by decide), u1_cell (by decide), g2 i hi, k1 2 i (by decide) (by decide), k1 246 i (by decide) (by decide)]
        exact ⟨(h7 i hi).1, (h7 i hi).2.1, (h7 i hi).2.2.1, rfl⟩
    · exfalso; clear h3 h4 h5 h6 h7 hR hF hT; ((try simp (disch := (first | omega | ((try simp (disch := omega) only [i_nI, Int32.reduceToInt, i_l]) <;> omega))) only [i_le, i_lt, i_eq, Int32.reduceToInt, i_nI, i_l, li0, vp_in_iff, i_sub, i_add] at *) <;> omega)
  · have e : EvM 40 mX10_likeness [.ref 245, .int a] σ (fun r2 σ2 => r2 = some (.int (-1)) ∧ Rel σ2) := EX10_likeness ⟨fun q => absurd (by rw [i_l] at q; exact q) hv, fun _ => ⟨rfl, hR⟩⟩
    refine EX2_limitTo ⟨fun q => ⟨_, rfl, _, rfl, e⟩, fun q0 => ⟨fun q => ?_, fun q => ⟨_, rfl, _, rfl, e⟩⟩⟩
    exfalso; clear e h3 h4 h5 h6 h7 hR hF hT; ((try simp (disch := (first | omega | ((try simp (disch := omega) only [i_nI, Int32.reduceToInt, i_l]) <;> omega))) only [i_le, i_lt, i_eq, Int32.reduceToInt, i_nI, i_l, li0, vp_in_iff, i_sub, i_add] at *) <;> omega)
theorem O_sign {σ : Sg} (hR : Rel σ) (a : Int32) : OPi mX9_sign mX10_sign [.int a] σ := by
  obtain ⟨nF, lk, ft, nT, tl, tc, hF, hT⟩ := hR.1
  obtain ⟨h1, h2, h3, h4, h5, h6, h7⟩ := id hF
  refine EX9_sign ?_
  have M : ∀ v : Int32, (∀ σ' : Sg, (∀ k, k < nF → a = nI k → v = nI (rep ft nF lk k)) → (¬ vp_in a nF → v = -1) → True) → (∀ k, k < nF → a = nI k → v = nI (rep ft nF lk k)) → (¬ vp_in a nF → v = -1) → EvM 40 mX10_sign [.ref 245, .int a] σ (fun r2 σ2 => r2 = some (.int v) ∧ Rel σ2) := by
    intro v _ v1 v0
    refine EX10_sign ?_
    rw [h6]
    refine C_findSigns h1 h2 h5 (fun i hi => ⟨(h7 i hi).1, (h7 i hi).2.2.1⟩) fun σ' g1 g2 => ⟨rfl, ?_⟩
    have hR' : Rel σ' := hR.q (g1.chg (fun j => by rw [show modOf 247 j = 0 from rfl]; decide) Chg.rf)
    refine C10_isForm (by rw [g1.1 245 (by decide)]; exact h5) h1 (fun p => ⟨_, rfl, fun q => absurd q (by decide), fun _ => ?_⟩) (fun p => ⟨_, rfl, fun _ => ⟨by rw [v0 p], hR'⟩, fun q => absurd rfl q⟩)
    obtain ⟨k, hk, rfl⟩ := vin p (by omega)
    rw [cl (by omega), g2 k hk]
    exact ⟨nvin (by omega) (by omega), by rw [v1 k hk rfl], hR'⟩
  by_cases hv : vp_in a nF
  · obtain ⟨k, hk, rfl⟩ := vin hv (by omega)
    refine EX2_signOf ⟨fun q => ?_, fun _ => ⟨fun q => absurd q (by rw [h3]; exact nI_ge hk (by omega)), fun _ => ⟨nvin (by omega) (by omega), ?_⟩⟩⟩
    · exfalso; clear M h3 h4 h5 h6 h7 hR hF hT; ((try simp (disch := (first | omega | ((try simp (disch := omega) only [i_nI, Int32.reduceToInt, i_l]) <;> omega))) only [i_le, i_lt, i_eq, Int32.reduceToInt, i_nI, i_l, li0, vp_in_iff, i_sub, i_add] at *) <;> omega)
    · rw [cl (by omega), (h7 k hk).2.2.2]
      exact ⟨_, rfl, _, rfl, M _ (fun _ _ _ => trivial) (fun k' hk' e => by rw [(nI_eq (by omega) (by omega)).mp e]) (fun q => absurd hv q)⟩
  · have e := M (-1) (fun _ _ _ => trivial) (fun k hk e => absurd (by rw [e]; exact nvin hk (by omega)) hv) (fun _ => rfl)
    refine EX2_signOf ⟨fun q => ⟨_, rfl, _, rfl, e⟩, fun q0 => ⟨fun q => ⟨_, rfl, _, rfl, e⟩, fun q => ?_⟩⟩
    exfalso; rw [h3] at q; clear M e h3 h4 h5 h6 h7 hR hF hT; ((try simp (disch := (first | omega | ((try simp (disch := omega) only [i_nI, Int32.reduceToInt, i_l]) <;> omega))) only [i_le, i_lt, i_eq, Int32.reduceToInt, i_nI, i_l, li0, vp_in_iff, i_sub, i_add] at *) <;> omega)
/-- with likeness 12 all forms are of one sign -/
theorem pc_le : ∀ k n, pc k n ≤ k := by
  intro k n
  induction k with
  | zero => exact Nat.le_refl _
  | succ k ih => unfold pc; have := Nat.mod_lt (n / 2 ^ k) (show 0 < 2 by decide); omega
theorem pc_12 {n : Nat} (h : n < 4096) : pc 24 n ≤ 12 := by
  have e : ∀ k, 12 ≤ k → pc k n = pc 12 n := by
    intro k hk
    obtain ⟨j, rfl⟩ : ∃ j, k = 12 + j := ⟨k - 12, by omega⟩
    clear hk
    induction j with
    | zero => rfl
    | succ j ih =>
      show pc (12 + j) n + n / 2 ^ (12 + j) % 2 = _
      have : n / 2 ^ (12 + j) = 0 := Nat.div_eq_of_lt (Nat.lt_of_lt_of_le h (by rw [show 4096 = 2 ^ 12 from rfl]; exact Nat.pow_le_pow_right (by decide) (by omega)))
      rw [this, ih]; omega
  rw [e 24 (by decide)]
  exact pc_le 12 n
theorem one_12 {ft : Nat → Nat} : ∀ nF, (∀ i, i < nF → ft i < 4096) → ∀ x, x < nF → grO (lkB ft 12) nF x = 0 := by
  intro nF
  induction nF with
  | zero => intro _ x hx; omega
  | succ n ih =>
    intro hf x hx
    show grI (lkB ft 12) n n (grO (lkB ft 12) n) x = 0
    have xl : ∀ a b : Nat, a < 4096 → b < 4096 → a ^^^ b < 4096 := fun a b p q => Nat.xor_lt_two_pow (n := 12) p q
    have hl : ∀ b, b < n → lkB ft 12 n b = true := fun b hb => by
      unfold lkB; rw [decide_eq_true_iff]; exact pc_12 (xl _ _ (hf n (by omega)) (hf b (by omega)))
    have G0 : Gg n (grO (lkB ft 12) n) := Gg.gO n
    have i0 := ih (fun i hi => hf i (by omega))
    have key : ∀ b, b ≤ n → (∀ y, y < n → grI (lkB ft 12) n b (grO (lkB ft 12) n) y = 0) ∧ (1 ≤ b → grI (lkB ft 12) n b (grO (lkB ft 12) n) n = 0) := by
      intro b
      induction b with
      | zero => intro _; exact ⟨fun y hy => i0 y hy, fun h => by omega⟩
      | succ b ihb =>
        intro hb
        obtain ⟨k1, k2⟩ := ihb (by omega)
        rw [grI_s, if_pos (hl b (by omega))]
        generalize hg : grI (lkB ft 12) n b (grO (lkB ft 12) n) = g at k1 k2
        have gb := k1 b (by omega)
        refine ⟨fun y hy => ?_, fun _ => ?_⟩
        · unfold jn; rw [k1 y hy, gb]
          by_cases e : 0 = max (g n) 0
          · rw [if_pos e]; omega
          · rw [if_neg e]
        · unfold jn; rw [gb, if_pos (by omega)]; omega
    obtain ⟨k1, k2⟩ := key n (Nat.le_refl _)
    by_cases e : x = n
    · rw [e]
      rcases Nat.eq_zero_or_pos n with z | z
      · have := (Gg.gO (like := lkB ft 12) (n + 1)).1 n
        have h2 : grI (lkB ft 12) n n (grO (lkB ft 12) n) n ≤ n := this
        omega
      · exact k2 z
    · exact k1 x (by omega)
/-- the least likeness with one sign alone -/
def isO (ft : Nat → Nat) (nF v : Nat) : Prop := ∀ x, x < nF → rep ft nF v x = 0
theorem C_least {N nF : Nat} {σ : Sg} {Q : Option Value → Sg → Prop} {ft : Nat → Nat} (hn : nF ≤ 24) (hs : σ.1 1 3 = nI nF) (hf : ∀ i, i < nF → ft i < 4096 ∧ σ.1 2 i = nI (ft i)) (h : ∀ (v : Nat) (σ' : Sg), v ≤ 12 → Chg [0] σ σ' → isO ft nF v → (∀ u, u < v → ¬ isO ft nF u) → (∀ a j, a ≠ 4 → σ'.1 a j = σ.1 a j) → Q (some (.int (nI v))) σ') : EvM (N + 3) mX2_leastLimit [.ref 1] σ Q := by
  have L : ∀ v, v ≤ 12 → ∀ σ' : Sg, Rw 4 σ σ' → (∀ u, u < v → ¬ isO ft nF u) → KX2_leastLimit_2 N σ' Q (nI v) := by
    refine for_up ?_ ?_
    · intro σ' h1 h2
      exact BX2_leastLimit_2 ⟨fun _ => h 12 σ' (by omega) (h1.chg (fun j => by rw [show modOf 4 j = 0 from rfl]; decide) Chg.rf) (fun x hx => one_12 nF (fun i hi => (hf i hi).1) x hx) h2 (fun a j q => h1.1 a q j), fun q => absurd (show (12 : Int32) ≤ nI 12 by decide) q⟩
    · intro v hv ih σ' h1 h2
      refine BX2_leastLimit_2 ⟨fun q => ?_, fun _ => ?_⟩
      · exfalso; clear ih h1 h2 h hf hs; ((try simp (disch := (first | omega | ((try simp (disch := omega) only [i_nI, Int32.reduceToInt, i_l]) <;> omega))) only [i_le, i_lt, i_eq, Int32.reduceToInt, i_nI, i_l, li0, vp_in_iff, i_sub, i_add] at *) <;> omega)
      · refine C_group (nF := nF) (v := v) (ft := ft) lay_4 (by decide) (by decide) (by decide) hn (by omega) (by rw [h1.1 1 (by decide)]; exact hs) (fun i hi => by rw [h1.1 2 (by decide)]; exact hf i hi) fun σ2 g1 g2 => ⟨rfl, ?_⟩
        have h12 : Rw 4 σ σ2 := ⟨fun a ha j => by rw [g1.1 a ha, h1.1 a ha], by rw [g1.2, h1.2]⟩
        refine C_isOne lay_4 (by decide) (by rw [h12.1 1 (by decide)]; exact hs) hn g2 (fun x => rep_le) (fun p => ⟨_, rfl, fun q => absurd q (by decide), fun _ => ?_⟩) (fun p => ⟨_, rfl, fun _ => ?_, fun q => absurd rfl q⟩)
        · exact h v σ2 (by omega) (h12.chg (fun j => by rw [show modOf 4 j = 0 from rfl]; decide) Chg.rf) p h2 (fun a j q => h12.1 a q j)
        · rw [nI_1]
          refine ih σ2 h12 (fun u hu => ?_)
          by_cases e : u = v
          · subst e; obtain ⟨x, hx, hx2⟩ := p; exact fun z => hx2 (z x hx)
          · exact h2 u (by omega)
  exact EX2_leastLimit (L 0 (by omega) σ Rw.rf (fun u hu => by omega))
theorem M_least {N nF v : Nat} {σ : Sg} {Q : Option Value → Sg → Prop} {ft : Nat → Nat} (hn : nF ≤ 24) (hv : v ≤ 12) (hs : σ.1 245 0 = nI nF) (hf : ∀ i, i < nF → ft i < 4096 ∧ σ.1 246 i = nI (ft i)) (hv1 : isO ft nF v) (hv2 : ∀ u, u < v → ¬ isO ft nF u) (h : ∀ σ' : Sg, Rw 247 σ σ' → Q (some (.int (nI v))) σ') : ∀ u, u ≤ v → ∀ σ' : Sg, Rw 247 σ σ' → (∀ x, x < nF → σ'.1 247 x = nI (rep ft nF u x)) → KX10_signs_26 N σ' Q (nI u) := by
  have one : ∀ u, isO ft nF u ↔ cnt (fun f => rep ft nF u f == f) nF ≤ 1 := fun u => one_cnt (fun x => rep_le) (fun x => rep_rep)
  refine for_up ?_ ?_
  · intro σ' h1 h2
    have c1 := cnt_le (fun f => rep ft nF v f == f) nF
    refine BX10_signs_26 (M_signMany (by rw [h1.1 245 (by decide)]; exact hs) hn h2 (fun x => rep_le) ⟨_, rfl, fun _ => h σ' h1, fun q => ?_⟩)
    exact absurd (show nI _ ≤ nI 1 from nI_le ((one v).mp hv1) (by omega)) q
  · intro u hu ih σ' h1 h2
    have c1 := cnt_le (fun f => rep ft nF u f == f) nF
    refine BX10_signs_26 (M_signMany (by rw [h1.1 245 (by decide)]; exact hs) hn h2 (fun x => rep_le) ⟨_, rfl, fun q => ?_, fun _ => ?_⟩)
    · have := (nI_leI (a := cnt (fun f => rep ft nF u f == f) nF) (b := 1) (by omega) (by omega)).mp q
      exact absurd ((one u).mpr this) (hv2 u hu)
    · rw [nI_1]
      refine C_findSigns hn (by omega) (by rw [h1.1 245 (by decide)]; exact hs) (fun i hi => by rw [h1.1 246 (by decide)]; exact hf i hi) fun σ2 g1 g2 => ⟨rfl, ih σ2 ⟨fun a ha j => by rw [g1.1 a ha, h1.1 a ha], by rw [g1.2, h1.2]⟩ g2⟩
theorem Rw.c0 {k : Nat} {σ σ' : Sg} (h : Rw k σ σ') (hm : ∀ j, modOf k j = 0) : Chg [0] σ σ' := h.chg (fun j => by rw [hm j]; decide) Chg.rf
theorem O_signs {σ : Sg} (hR : Rel σ) (a : Int32) : OPi mX9_signs mX10_signs [.int a] σ := by
  obtain ⟨nF, lk, ft, nT, tl, tc, hF, hT⟩ := hR.1
  obtain ⟨h1, h2, h3, h4, h5, h6, h7⟩ := id hF
  refine EX9_signs ?_
  have hb : ∀ x, rep ft nF lk x ≤ x := fun x => rep_le
  have hg : ∀ x, x < nF → σ.1 3 x = nI (rep ft nF lk x) := fun x hx => (h7 x hx).2.2.2
  have M : ∀ w v, w < 3 → v = (if w = 0 then nI (cnt (fun f => rep ft nF lk f == f) nF) else if w = 1 then nI (grt (fun s => cnt (fun f => rep ft nF lk f == s) nF) nF).2 else (grt (fun s => cnt (fun f => rep ft nF lk f == s) nF) nF).1) → EvM 40 mX10_signs [.ref 245, .int (nI w)] σ (fun r2 σ2 => r2 = some (.int v) ∧ Rel σ2) := by
    intro w v hw hv
    refine EX10_signs ⟨fun _ => ⟨fun q => ?_, fun _ => ?_⟩, fun q => ?_⟩
    · exfalso; clear hv h3 h4 h5 h6 h7 hR hF hT hg hb; ((try simp (disch := (first | omega | ((try simp (disch := omega) only [i_nI, Int32.reduceToInt, i_l]) <;> omega))) only [i_le, i_lt, i_eq, Int32.reduceToInt, i_nI, i_l, li0, vp_in_iff, i_sub, i_add] at *) <;> omega)
    · rw [h6]
      refine C_findSigns h1 h2 h5 (fun i hi => ⟨(h7 i hi).1, (h7 i hi).2.2.1⟩) fun σ' g1 g2 => ⟨rfl, ?_⟩
      refine M_signs hw (by rw [g1.1 245 (by decide)]; exact h5) h1 g2 hb ⟨by rw [hv], hR.q (g1.c0 fun _ => rfl)⟩
    · exfalso; apply q; rw [i_l, i_nI (by omega)]; omega
  refine ⟨fun q => ?_, fun q => ?_, fun q => ?_, fun q => ?_, fun q0 q1 q2 q3 => ?_⟩
  · subst q
    exact C_groups h3 h1 hg hb ⟨_, rfl, _, rfl, M 0 _ (by decide) rfl⟩
  · subst q
    refine C_greatest h3 h1 hg hb ⟨_, rfl, ?_⟩
    rcases grt_ok (fun s => cnt (fun f => rep ft nF lk f == s) nF) nF with ⟨e1, e2⟩ | ⟨k, hk, e1, e2⟩
    · rw [e1]
      refine C_members0 h3 h1 hg hb ⟨_, rfl, _, rfl, M 1 _ (by decide) ?_⟩
      rw [if_neg (by decide), if_pos rfl, e2]; rfl
    · rw [e1]
      refine C_members h3 h1 hg hb (by omega) ⟨_, rfl, _, rfl, M 1 _ (by decide) ?_⟩
      rw [if_neg (by decide), if_pos rfl, e2]
  · subst q
    refine C_greatest h3 h1 hg hb ⟨_, rfl, _, rfl, M 2 _ (by decide) ?_⟩
    rw [if_neg (by decide), if_neg (by decide)]
  · subst q
    refine C_least h1 h3 (fun i hi => ⟨(h7 i hi).1, (h7 i hi).2.1⟩) fun v σ' hv c o1 o2 k1 => ⟨_, rfl, _, rfl, ?_⟩
    have s5 : σ'.1 245 0 = nI nF := by rw [k1 245 0 (by decide)]; exact h5
    have s6 : ∀ i, i < nF → ft i < 4096 ∧ σ'.1 246 i = nI (ft i) := fun i hi => by rw [k1 246 i (by decide)]; exact ⟨(h7 i hi).1, (h7 i hi).2.2.1⟩
    refine EX10_signs ⟨fun _ => ⟨fun _ => ?_, fun q => absurd rfl q⟩, fun q => absurd ⟨by decide, by decide⟩ q⟩
    refine C_findSigns (v := 0) h1 (by decide) s5 s6 fun σ2 g1 g2 => ⟨rfl, ?_⟩
    exact M_least h1 hv s5 s6 o1 o2 (fun σ3 k => ⟨rfl, (hR.q c).q (k.c0 fun _ => rfl)⟩) 0 (by omega) σ2 g1 g2
  · refine ⟨_, rfl, EX10_signs ⟨fun q => ?_, fun _ => ⟨rfl, hR⟩⟩⟩
    exfalso; clear M h3 h4 h5 h6 h7 hR hF hT hg hb; ((try simp (disch := (first | omega | ((try simp (disch := omega) only [i_nI, Int32.reduceToInt, i_l]) <;> omega))) only [i_le, i_lt, i_eq, Int32.reduceToInt, i_nI, i_l, li0, vp_in_iff, i_sub, i_add] at *) <;> omega)
