/-! ===== what a grid is made of: akin, apart, seats ===== -/
def ChR (lo hi : Nat) (σ σ' : Sg) : Prop := (∀ a, (a < lo ∨ hi ≤ a) → ∀ j, σ'.1 a j = σ.1 a j) ∧ σ'.2 = σ.2
theorem ChR.rf {lo hi : Nat} {σ : Sg} : ChR lo hi σ σ := ⟨fun _ _ _ => rfl, rfl⟩
theorem ChR.u1 {lo hi k j : Nat} {x : Int32} {σ σ' : Sg} (h : ChR lo hi σ σ') (h1 : lo ≤ k) (h2 : k < hi) : ChR lo hi σ (u1 σ' k j x) := ⟨fun a ha b => by rw [u1_cell (by omega)]; exact h.1 a ha b, h.2⟩
theorem ChR.chg {lo hi : Nat} {σ σ' : Sg} {S : List Nat} (h : ChR lo hi σ σ') (hm : ∀ k j, lo ≤ k → k < hi → modOf k j ∈ S) : Chg S σ σ' := by
  refine ⟨fun a j e => ?_, fun a j _ => by rw [h.2]⟩
  by_cases z : lo ≤ a ∧ a < hi
  · exact absurd (hm a j z.1 z.2) e
  · exact h.1 a (by omega) j
/-- the greatest told of forms of the signs s and u: the first forms a, with those ahead of b, from m on -/
def apI (ap : Nat → Nat → Nat) (g : Nat → Nat) (s u a : Nat) : Nat → Nat → Nat
  | 0, m => m
  | b + 1, m => if g a = s ∧ g b = u then max (apI ap g s u a b m) (ap a b) else apI ap g s u a b m
def apO (ap : Nat → Nat → Nat) (g : Nat → Nat) (nF s u : Nat) : Nat → Nat
  | 0 => 0
  | a + 1 => apI ap g s u a nF (apO ap g nF s u a)
theorem apI_s {ap : Nat → Nat → Nat} {g : Nat → Nat} {s u a b m : Nat} : apI ap g s u a (b + 1) m = if g a = s ∧ g b = u then max (apI ap g s u a b m) (ap a b) else apI ap g s u a b m := rfl
theorem apI_le {ap : Nat → Nat → Nat} {g : Nat → Nat} {s u a m B : Nat} : ∀ b, (∀ j, j < b → ap a j ≤ B) → m ≤ B → apI ap g s u a b m ≤ B := by
  intro b
  induction b with
  | zero => intro _ h; exact h
  | succ b ih =>
    intro h hm
    have i := ih (fun j hj => h j (by omega)) hm
    have := h b (by omega)
    rw [apI_s]
    by_cases e : g a = s ∧ g b = u
    · rw [if_pos e]; omega
    · rw [if_neg e]; exact i
theorem apO_le {ap : Nat → Nat → Nat} {g : Nat → Nat} {nF s u B : Nat} : ∀ a, (∀ i, i < a → ∀ j, j < nF → ap i j ≤ B) → apO ap g nF s u a ≤ B := by
  intro a
  induction a with
  | zero => intro _; exact Nat.zero_le _
  | succ a ih => intro h; exact apI_le nF (fun j hj => h a (by omega) j hj) (ih (fun i hi => h i (by omega)))
theorem apI_pos {ap : Nat → Nat → Nat} {g : Nat → Nat} {s u a m : Nat} : ∀ b, 0 < apI ap g s u a b m → 0 < m ∨ (g a = s ∧ ∃ j, j < b ∧ g j = u) := by
  intro b
  induction b with
  | zero => intro h; exact Or.inl h
  | succ b ih =>
    intro h
    rw [apI_s] at h
    by_cases e : g a = s ∧ g b = u
    · exact Or.inr ⟨e.1, b, Nat.lt_succ_self b, e.2⟩
    · rw [if_neg e] at h
      rcases ih h with q | ⟨q, j, hj, q2⟩
      · exact Or.inl q
      · exact Or.inr ⟨q, j, by omega, q2⟩
theorem apO_pos {ap : Nat → Nat → Nat} {g : Nat → Nat} {nF s u : Nat} : ∀ a, 0 < apO ap g nF s u a → (∃ i, i < a ∧ g i = s) ∧ ∃ j, j < nF ∧ g j = u := by
  intro a
  induction a with
  | zero => intro h; exact absurd h (Nat.lt_irrefl _)
  | succ a ih =>
    intro h
    rcases apI_pos nF h with q | ⟨q, j, hj, q2⟩
    · obtain ⟨⟨i, hi, e⟩, r⟩ := ih q
      exact ⟨⟨i, by omega, e⟩, r⟩
    · exact ⟨⟨a, Nat.lt_succ_self a, q⟩, j, hj, q2⟩
/-- the first eight that are bound -/
def stL (bd : Nat → Bool) : Nat → List Nat
  | 0 => []
  | n + 1 => if bd n = true ∧ (stL bd n).length < 8 then stL bd n ++ [n] else stL bd n
theorem stL_full {bd : Nat → Bool} {n : Nat} (h : 8 ≤ (stL bd n).length) : ∀ d, stL bd (n + d) = stL bd n := by
  intro d
  induction d with
  | zero => rfl
  | succ d ih =>
    show (if bd (n + d) = true ∧ (stL bd (n + d)).length < 8 then _ else _) = _
    rw [ih, if_neg (by omega)]
    exact ih
theorem stL_le {bd : Nat → Bool} : ∀ n, (stL bd n).length ≤ 8 := by
  intro n
  induction n with
  | zero => exact Nat.zero_le _
  | succ n ih =>
    unfold stL
    by_cases e : bd n = true ∧ (stL bd n).length < 8
    · rw [if_pos e, List.length_append]; show _ + 1 ≤ 8; omega
    · rw [if_neg e]; exact ih
theorem gd_l {l l' : List Nat} {i : Nat} (h : i < l.length) : (l ++ l').getD i 0 = l.getD i 0 := by
  rw [List.getD_eq_getElem?_getD, List.getD_eq_getElem?_getD, List.getElem?_append_left h]
theorem gd_r {l : List Nat} {x : Nat} : (l ++ [x]).getD l.length 0 = x := by
  rw [List.getD_eq_getElem?_getD, List.getElem?_append_right (Nat.le_refl _), Nat.sub_self]
  rfl
theorem stL_lt {bd : Nat → Bool} : ∀ n, (∀ i, i < (stL bd n).length → (stL bd n).getD i 0 < n) ∧ ∀ i j, i < j → j < (stL bd n).length → (stL bd n).getD i 0 < (stL bd n).getD j 0 := by
  intro n
  induction n with
  | zero => exact ⟨fun i hi => absurd hi (Nat.not_lt_zero i), fun i j _ hj => absurd hj (Nat.not_lt_zero j)⟩
  | succ n ih =>
    obtain ⟨i1, i2⟩ := ih
    unfold stL
    by_cases e : bd n = true ∧ (stL bd n).length < 8
    · rw [if_pos e]
      refine ⟨fun i hi => ?_, fun i j hij hj => ?_⟩
      · rw [List.length_append] at hi
        have hi2 : i < (stL bd n).length + 1 := hi
        by_cases z : i = (stL bd n).length
        · rw [z, gd_r]; omega
        · rw [gd_l (by omega)]; have := i1 i (by omega); omega
      · rw [List.length_append] at hj
        have hj2 : j < (stL bd n).length + 1 := hj
        by_cases z : j = (stL bd n).length
        · rw [z, gd_r, gd_l (by omega)]; exact i1 i (by omega)
        · rw [gd_l (by omega), gd_l (by omega)]; exact i2 i j hij (by omega)
    · rw [if_neg e]
      exact ⟨fun i hi => by have := i1 i hi; omega, i2⟩
/-- bound to another one -/
def bdB (AK AP : Nat → Nat → Nat) (nF s : Nat) : Bool := !allB (fun u => !(!(u == s) && (decide (0 < AK s u) || decide (0 < AP s u)))) nF
theorem bdB_iff {AK AP : Nat → Nat → Nat} {nF s : Nat} : bdB AK AP nF s = true ↔ ∃ u, u < nF ∧ ¬ u = s ∧ (0 < AK s u ∨ 0 < AP s u) := by
  have h : bdB AK AP nF s = true ↔ ¬ allB (fun u => !(!(u == s) && (decide (0 < AK s u) || decide (0 < AP s u)))) nF = true := by
    unfold bdB
    cases allB (fun u => !(!(u == s) && (decide (0 < AK s u) || decide (0 < AP s u)))) nF <;> simp
  rw [h, allB_not]
  constructor
  · rintro ⟨u, hu, e⟩
    refine ⟨u, hu, ?_⟩
    simp only [Bool.not_eq_false', Bool.and_eq_true, Bool.not_eq_true', beq_eq_false_iff_ne, Bool.or_eq_true, decide_eq_true_eq] at e
    exact e
  · rintro ⟨u, hu, e⟩
    refine ⟨u, hu, ?_⟩
    simp only [Bool.not_eq_false', Bool.and_eq_true, Bool.not_eq_true', beq_eq_false_iff_ne, Bool.or_eq_true, decide_eq_true_eq]
    exact e
section GD
variable {N nF lk nT : Nat} {ft : Nat → Nat} {tl : Nat → Nat} {tc : Nat → Nat → Int32} {ap AK AP : Nat → Nat → Nat} {σ : Sg} {Q : Option Value → Sg → Prop}
def akV (ft : Nat → Nat) (nF lk : Nat) (tl : Nat → Nat) (tc : Nat → Nat → Int32) (nT a b : Nat) : Nat := if a = b then 0 else Aa (akS ft nF lk tl tc nT) (akP tl tc nT) (akL ft nF lk tl tc nT) (wL tl tc nT).length a b
theorem akV_le {a b : Nat} : akV ft nF lk tl tc nT a b ≤ 96 := by
  unfold akV
  by_cases e : a = b
  · rw [if_pos e]; omega
  · rw [if_neg e]; exact cnt_le _ _
theorem C_measureAkin (hG : GE ft nF lk tl tc nT (wL tl tc nT).length σ) (h : ∀ σ', ChR 49 73 σ σ' → (∀ a, a < 24 → ∀ b, b < 24 → σ'.1 (49 + a) b = nI (akV ft nF lk tl tc nT a b)) → Q none σ') : EvM (N + 1) mX3_measureAkin [.ref 22] σ Q := by
  have A : ∀ a, a ≤ 24 → ∀ σ', ChR 49 73 σ σ' → (∀ i, i < a → ∀ b, b < 24 → σ'.1 (49 + i) b = nI (akV ft nF lk tl tc nT i b)) → KX3_measureAkin_2 N σ' Q (nI a) := by
    refine for_up ?_ ?_
    · intro σ' c e
      exact BX3_measureAkin_2 ⟨fun _ => h σ' c e, fun q => absurd (show (24 : Int32) ≤ nI 24 by decide) q⟩
    · intro a ha iha σ' c e
      refine BX3_measureAkin_2 ⟨fun q => absurd q (nI_ge (b := 24) ha (by omega)), fun _ => ?_⟩
      have J : ∀ b, b ≤ 24 → ∀ σ2, ChR 49 73 σ σ2 → (∀ i, i < a → ∀ b, b < 24 → σ2.1 (49 + i) b = nI (akV ft nF lk tl tc nT i b)) → (∀ j, j < b → σ2.1 (49 + a) j = nI (akV ft nF lk tl tc nT a j)) → KX3_measureAkin_10 N σ2 Q (nI a) (nI b) := by
        refine for_up ?_ ?_
        · intro σ2 c2 e2 e3
          refine BX3_measureAkin_10 ⟨fun _ => ?_, fun q => absurd (show (24 : Int32) ≤ nI 24 by decide) q⟩
          rw [nI_1]
          refine iha σ2 c2 (fun i hi b hb => ?_)
          by_cases z : i = a
          · rw [z]; exact e3 b hb
          · exact e2 i (by omega) b hb
        · intro b hb ihb σ2 c2 e2 e3
          refine BX3_measureAkin_10 ⟨fun q => absurd q (nI_ge (b := 24) hb (by omega)), fun _ => ⟨nvin (by omega) (by omega), ?_⟩⟩
          rw [cl (show a < 2147483648 by omega), cl (show b < 2147483648 by omega), nI_1]
          have put : ∀ v : Nat, v = akV ft nF lk tl tc nT a b → KX3_measureAkin_10 N (u1 σ2 (49 + a) b (nI v)) Q (nI a) (nI (b + 1)) := by
            intro v hv
            refine ihb _ (c2.u1 (by omega) (by omega)) (fun i hi j hj => ?_) (fun j hj => ?_)
            · rw [u1_cell (by omega)]; exact e2 i hi j hj
            · by_cases z : j = b
              · rw [z, u1_same, hv]
              · rw [u1_slot z]; exact e3 j (by omega)
          refine ⟨fun q => ⟨nvin (by omega) (by omega), put 0 ?_⟩, fun q => ?_⟩
          · have := (nI_eq (by omega) (by omega)).mp q
            unfold akV; rw [if_pos this]
          · have ne : ¬ a = b := fun z => q (by rw [z])
            refine C_stems ha hb (n := (wL tl tc nT).length) (nF := nF) (lk := lk) (ft := ft) (tl := tl) (tc := tc) (nT := nT) ?_ ⟨_, rfl, nvin (by omega) (by omega), put _ ?_⟩
            · obtain ⟨em, k⟩ := hG
              exact ⟨em, fun f hf => by rw [c2.1 98 (by omega)]; exact k f hf⟩
            · unfold akV; rw [if_neg ne]
      exact J 0 (by omega) σ' c e (fun j hj => absurd hj (Nat.not_lt_zero j))
  exact EX3_measureAkin (A 0 (by omega) σ ChR.rf (fun i hi => absurd hi (Nat.not_lt_zero i)))
theorem C_measureApart (hF : RF nF lk ft σ) (hK : RK ap σ) (h : ∀ σ', ChR 74 98 σ σ' → (∀ s, s < 24 → ∀ u, u < 24 → σ'.1 (74 + s) u = nI (apO ap (rep ft nF lk) nF s u nF)) → Q none σ') : EvM (N + 1) mX3_measureApart [.ref 22] σ Q := by
  have n24 := hF.1
  have fr : ∀ σ', ChR 74 98 σ σ' → RF nF lk ft σ' ∧ σ'.1 1 3 = nI nF := fun σ' c => by
    have hF' : RF nF lk ft σ' := hF.fr ⟨fun a j e => c.1 a (by
      by_cases z : a < 74 ∨ 98 ≤ a
      · exact z
      · have : modOf a j = 0 := by obtain ⟨i, rfl⟩ : ∃ i, a = 74 + i := ⟨a - 74, by omega⟩; exact modr_74 (by omega)
        rw [this] at e; cases e) j, fun a j _ => by rw [c.2]⟩
    exact ⟨hF', hF'.2.2.1⟩
  have C : ∀ f, f ≤ nF → ∀ σ', ChR 74 98 σ σ' → (∀ s, s < 24 → ∀ u, u < 24 → σ'.1 (74 + s) u = nI (apO ap (rep ft nF lk) nF s u f)) → KX3_measureApart_39 N σ' Q (nI f) := by
    refine for_up ?_ ?_
    · intro σ' c e
      exact BX3_measureApart_39 ⟨fun _ => h σ' c e, fun q => absurd (by rw [(fr σ' c).2]; exact nI_le (Nat.le_refl _) (by omega)) q⟩
    · intro f hf ihf σ' c e
      refine BX3_measureApart_39 ⟨fun q => absurd q (by rw [(fr σ' c).2]; exact nI_ge hf (by omega)), fun _ => ?_⟩
      have J : ∀ b, b ≤ nF → ∀ σ2, ChR 74 98 σ σ2 → (∀ s, s < 24 → ∀ u, u < 24 → σ2.1 (74 + s) u = nI (apI ap (rep ft nF lk) s u f b (apO ap (rep ft nF lk) nF s u f))) → KX3_measureApart_52 N σ2 Q (nI f) (nI b) := by
        refine for_up ?_ ?_
        · intro σ2 c2 e2
          refine BX3_measureApart_52 ⟨fun _ => ?_, fun q => absurd (by rw [(fr σ2 c2).2]; exact nI_le (Nat.le_refl _) (by omega)) q⟩
          rw [nI_1]
          exact ihf σ2 c2 e2
        · intro b hb ihb σ2 c2 e2
          have hF2 := (fr σ2 c2).1
          have r1 := rep_le (ft := ft) (nF := nF) (lk := lk) (x := f)
          have r2 := rep_le (ft := ft) (nF := nF) (lk := lk) (x := b)
          refine BX3_measureApart_52 ⟨fun q => absurd q (by rw [(fr σ2 c2).2]; exact nI_ge hb (by omega)), fun _ => C_signOf hF2 hf ⟨_, rfl, C_signOf hF2 hb ⟨_, rfl, ?_⟩⟩⟩
          rw [cl (show rep ft nF lk f < 2147483648 by omega), cl (show rep ft nF lk b < 2147483648 by omega), cl (show f < 2147483648 by omega), cl (show b < 2147483648 by omega), nI_1, e2 _ (by omega) _ (by omega), c2.1 (24 + f) (by omega)]
          obtain ⟨k1, k2, k3⟩ := hK f (by omega) b (by omega)
          have bd : apI ap (rep ft nF lk) (rep ft nF lk f) (rep ft nF lk b) f b (apO ap (rep ft nF lk) nF (rep ft nF lk f) (rep ft nF lk b) f) ≤ 9 := apI_le b (fun j hj => (hK f (by omega) j (by omega)).1) (apO_le f (fun i hi j hj => (hK i (by omega) j (by omega)).1))
          rw [k2, i_max (by omega) (by omega)]
          refine ⟨nvin (by omega) (by omega), nvin (by omega) (by omega), nvin (by omega) (by omega), nvin (by omega) (by omega), nvin (by omega) (by omega), nvin (by omega) (by omega), ihb _ (c2.u1 (by omega) (by omega)) (fun s hs u hu => ?_)⟩
          rw [apI_s]
          by_cases z : rep ft nF lk f = s ∧ rep ft nF lk b = u
          · obtain ⟨rfl, rfl⟩ := z
            rw [u1_same, if_pos ⟨rfl, rfl⟩]
          · rw [u1_other (by omega), if_neg z]
            exact e2 s hs u hu
      exact J 0 (by omega) σ' c e
  have A : ∀ a, a ≤ 24 → ∀ σ', ChR 74 98 σ σ' → (∀ i, i < a → ∀ b, b < 24 → σ'.1 (74 + i) b = 0) → KX3_measureApart_2 N σ' Q (nI a) := by
    refine for_up ?_ ?_
    · intro σ' c e
      exact BX3_measureApart_2 ⟨fun _ => C 0 (by omega) σ' c (fun s hs u hu => e s hs u hu), fun q => absurd (show (24 : Int32) ≤ nI 24 by decide) q⟩
    · intro a ha iha σ' c e
      refine BX3_measureApart_2 ⟨fun q => absurd q (nI_ge (b := 24) ha (by omega)), fun _ => ?_⟩
      have J : ∀ b, b ≤ 24 → ∀ σ2, ChR 74 98 σ σ2 → (∀ i, i < a → ∀ b, b < 24 → σ2.1 (74 + i) b = 0) → (∀ j, j < b → σ2.1 (74 + a) j = 0) → KX3_measureApart_10 N σ2 Q (nI a) (nI b) := by
        refine for_up ?_ ?_
        · intro σ2 c2 e2 e3
          refine BX3_measureApart_10 ⟨fun _ => ?_, fun q => absurd (show (24 : Int32) ≤ nI 24 by decide) q⟩
          rw [nI_1]
          refine iha σ2 c2 (fun i hi b hb => ?_)
          by_cases z : i = a
          · rw [z]; exact e3 b hb
          · exact e2 i (by omega) b hb
        · intro b hb ihb σ2 c2 e2 e3
          refine BX3_measureApart_10 ⟨fun q => absurd q (nI_ge (b := 24) hb (by omega)), fun _ => ⟨nvin (by omega) (by omega), nvin (by omega) (by omega), ?_⟩⟩
          rw [cl (show a < 2147483648 by omega), cl (show b < 2147483648 by omega), nI_1]
          refine ihb _ (c2.u1 (by omega) (by omega)) (fun i hi j hj => ?_) (fun j hj => ?_)
          · rw [u1_cell (by omega)]; exact e2 i hi j hj
          · by_cases z : j = b
            · rw [z, u1_same]
            · rw [u1_slot z]; exact e3 j (by omega)
      exact J 0 (by omega) σ' c e (fun j hj => absurd hj (Nat.not_lt_zero j))
  exact EX3_measureApart (A 0 (by omega) σ ChR.rf (fun i hi => absurd hi (Nat.not_lt_zero i)))
theorem M_apartOf (hF : RF nF lk ft σ) (hG : SG nF lk ft σ) (hK : RK ap σ) {s u : Nat} (hs : s < 24) (hu : u < 24) (h : Q (some (.int (nI (apO ap (rep ft nF lk) nF s u nF)))) σ) : EvM N mX10_apartOf [.ref 245, .int (nI s), .int (nI u)] σ Q := by
  have n24 := hF.1
  have e0 := hF.2.2.2.2.1
  have A : ∀ a, a ≤ nF → KX10_apartOf_5 N σ Q (nI s) (nI u) (nI (apO ap (rep ft nF lk) nF s u a)) (nI a) := by
    refine for_up ?_ ?_
    · exact BX10_apartOf_5 ⟨fun _ => h, fun q => absurd (by rw [e0]; exact nI_le (Nat.le_refl _) (by omega)) q⟩
    · intro a ha iha
      refine BX10_apartOf_5 ⟨fun q => absurd q (by rw [e0]; exact nI_ge ha (by omega)), fun _ => ?_⟩
      have J : ∀ b, b ≤ nF → KX10_apartOf_17 N σ Q (nI s) (nI u) (nI (apI ap (rep ft nF lk) s u a b (apO ap (rep ft nF lk) nF s u a))) (nI a) (nI b) := by
        refine for_up ?_ ?_
        · refine BX10_apartOf_17 ⟨fun _ => ?_, fun q => absurd (by rw [e0]; exact nI_le (Nat.le_refl _) (by omega)) q⟩
          rw [nI_1]; exact iha
        · intro b hb ihb
          have r1 := rep_le (ft := ft) (nF := nF) (lk := lk) (x := a)
          have r2 := rep_le (ft := ft) (nF := nF) (lk := lk) (x := b)
          obtain ⟨k1, k2, k3⟩ := hK a (by omega) b (by omega)
          have bd : apI ap (rep ft nF lk) s u a b (apO ap (rep ft nF lk) nF s u a) ≤ 9 := apI_le b (fun j hj => (hK a (by omega) j (by omega)).1) (apO_le a (fun i hi j hj => (hK i (by omega) j (by omega)).1))
          have p0 : (0 : Int32) ≤ nI (apI ap (rep ft nF lk) s u a b (apO ap (rep ft nF lk) nF s u a)) := nI_pos' (by omega)
          have e24 : (24 : Int32) * nI a + nI b = nI (24 * a + b) := by rw [show (24 : Int32) = nI 24 from rfl, pk_mul, nI_add]
          rw [apI_s] at ihb
          refine BX10_apartOf_17 ⟨fun q => absurd q (by rw [e0]; exact nI_ge hb (by omega)), fun _ => ⟨nvin (by omega) (by omega), ?_⟩⟩
          rw [cl (show a < 2147483648 by omega), cl (show b < 2147483648 by omega), nI_1, e24, cl (by omega), hG a ha, hG b hb, k3]
          have no : ¬ (rep ft nF lk a = s ∧ rep ft nF lk b = u) → ((0 : Int32) ≤ nI (apI ap (rep ft nF lk) s u a b (apO ap (rep ft nF lk) nF s u a)) → KX10_apartOf_17 N σ Q (nI s) (nI u) (nI (apI ap (rep ft nF lk) s u a b (apO ap (rep ft nF lk) nF s u a))) (nI a) (nI (b + 1))) ∧ (¬ (0 : Int32) ≤ nI (apI ap (rep ft nF lk) s u a b (apO ap (rep ft nF lk) nF s u a)) → KX10_apartOf_17 N σ Q (nI s) (nI u) 0 (nI a) (nI (b + 1))) := fun z => by
            rw [if_neg z] at ihb
            exact ⟨fun _ => ihb, fun y => absurd p0 y⟩
          refine ⟨fun q => ⟨nvin (by omega) (by omega), fun q2 => ⟨nvin (by omega) (by omega), ?_⟩, fun q2 => no (fun z => q2 (by rw [z.2]))⟩, fun q => no (fun z => q (by rw [z.1]))⟩
          have z1 := (nI_eq (by omega) (by omega)).mp q
          have z2 := (nI_eq (by omega) (by omega)).mp q2
          rw [if_pos ⟨z1, z2⟩] at ihb
          refine ⟨fun y => ?_, fun y => ?_⟩
          · have := (nI_leI (by omega) (by omega)).mp y
            rw [Nat.max_eq_left this] at ihb; exact ihb
          · have : ¬ ap a b ≤ apI ap (rep ft nF lk) s u a b (apO ap (rep ft nF lk) nF s u a) := fun k => y (nI_le k (by omega))
            rw [Nat.max_eq_right (by omega)] at ihb; exact ihb
      exact J 0 (by omega)
  exact EX10_apartOf (A 0 (by omega))
/-- the class's tables -/
def GTc (AK AP : Nat → Nat → Nat) (σ : Sg) : Prop := (∀ a, a < 24 → ∀ b, b < 24 → AK a b ≤ 96 ∧ σ.1 (49 + a) b = nI (AK a b)) ∧ ∀ a, a < 24 → ∀ b, b < 24 → AP a b ≤ 9 ∧ σ.1 (74 + a) b = nI (AP a b)
theorem C_isBound (hn : nF ≤ 24) (h3 : σ.1 1 3 = nI nF) (hT : GTc AK AP σ) {s : Nat} (hs : s < nF) (h1 : bdB AK AP nF s = true → Q (some (.int 1)) σ) (h0 : ¬ bdB AK AP nF s = true → Q (some (.int 0)) σ) : EvM (N + 1) mX3_isBound [.ref 22, .int (nI s)] σ Q := by
  have L : ∀ i, i ≤ nF → (∀ u, u < i → ¬ u = s → ¬ (0 < AK s u ∨ 0 < AP s u)) → KX3_isBound_2 N σ Q (nI s) (nI i) := by
    refine for_up ?_ ?_
    · intro a
      refine BX3_isBound_2 ⟨fun _ => h0 (fun z => ?_), fun q => absurd (by rw [h3]; exact nI_le (Nat.le_refl _) (by omega)) q⟩
      obtain ⟨u, hu, z1, z2⟩ := bdB_iff.mp z
      exact a u hu z1 z2
    · intro i hi ih a
      obtain ⟨k1, k2⟩ := hT.1 s (by omega) i (by omega)
      obtain ⟨k3, k4⟩ := hT.2 s (by omega) i (by omega)
      have go : (¬ i = s → ¬ (0 < AK s i ∨ 0 < AP s i)) → KX3_isBound_2 N σ Q (nI s) (nI (i + 1)) := fun z => ih (fun u hu => by
        by_cases e : u = i
        · rw [e]; exact z
        · exact a u (by omega))
      refine BX3_isBound_2 ⟨fun q => absurd q (by rw [h3]; exact nI_ge hi (by omega)), fun _ => ⟨fun q => ?_, fun q => ⟨nvin (by omega) (by omega), nvin (by omega) (by omega), ?_⟩⟩⟩
      · have := (nI_eq (by omega) (by omega)).mp q
        rw [nI_1]
        exact go (fun z => absurd this z)
      · have ne : ¬ i = s := fun z => q (by rw [z])
        rw [cl (show s < 2147483648 by omega), cl (show i < 2147483648 by omega), k2, k4, nI_1]
        refine ⟨fun y => h1 (bdB_iff.mpr ⟨i, hi, ne, Or.inl ?_⟩), fun y => ⟨nvin (by omega) (by omega), nvin (by omega) (by omega), fun z => go (fun _ w => ?_), fun z => h1 (bdB_iff.mpr ⟨i, hi, ne, Or.inr ?_⟩)⟩⟩
        · exact (nI_ltI (a := 0) (by omega) (by omega)).mp y
        · have z1 := (nI_leI (b := 0) (by omega) (by omega)).mp z
          rcases w with w | w
          · exact y (nI_lt (a := 0) w (by omega))
          · omega
        · by_cases w : 0 < AP s i
          · exact w
          · exact absurd (nI_le (b := 0) (by omega) (by omega)) z
  exact EX3_isBound (L 0 (by omega) (fun u hu => absurd hu (Nat.not_lt_zero u)))
def SC (l : List Nat) (σ : Sg) : Prop := σ.1 22 9 = nI l.length ∧ ∀ i, i < l.length → σ.1 99 i = nI (l.getD i 0)
/-- only the class's seats have changed -/
def Ch2 (k1 k2 : Nat) (σ σ' : Sg) : Prop := (∀ a, a ≠ k1 → a ≠ k2 → ∀ j, σ'.1 a j = σ.1 a j) ∧ σ'.2 = σ.2
theorem Ch2.rf {k1 k2 : Nat} : Ch2 k1 k2 σ σ := ⟨fun _ _ _ _ => rfl, rfl⟩
theorem Ch2.u {k1 k2 k j : Nat} {x : Int32} {σ' : Sg} (h : Ch2 k1 k2 σ σ') (hk : k = k1 ∨ k = k2) : Ch2 k1 k2 σ (u1 σ' k j x) := ⟨fun a h1 h2 b => by rw [u1_cell (by omega)]; exact h.1 a h1 h2 b, h.2⟩
theorem C_seatBound (hn : nF ≤ 24) (h3 : σ.1 1 3 = nI nF) (hT : GTc AK AP σ) (h : ∀ σ', Ch2 22 99 σ σ' → SC (stL (bdB AK AP nF) nF) σ' → Q none σ') : EvM (N + 2) mX3_seatBound [.ref 22] σ Q := by
  have fr : ∀ σ', Ch2 22 99 σ σ' → σ'.1 1 3 = nI nF ∧ GTc AK AP σ' := fun σ' c => by
    refine ⟨by rw [c.1 1 (by decide) (by decide)]; exact h3, fun a ha b hb => ?_, fun a ha b hb => ?_⟩
    · rw [c.1 (49 + a) (by omega) (by omega)]; exact hT.1 a ha b hb
    · rw [c.1 (74 + a) (by omega) (by omega)]; exact hT.2 a ha b hb
  have L : ∀ s, s ≤ nF → ∀ σ', Ch2 22 99 σ σ' → SC (stL (bdB AK AP nF) s) σ' → KX3_seatBound_7 N σ' Q (nI s) := by
    refine for_up ?_ ?_
    · intro σ' c e
      exact BX3_seatBound_7 ⟨fun _ => h σ' c e, fun q => absurd (by rw [(fr σ' c).1]; exact nI_le (Nat.le_refl _) (by omega)) q⟩
    · intro s hs ih σ' c e
      obtain ⟨f3, fT⟩ := fr σ' c
      have l8 := stL_le (bd := bdB AK AP nF) s
      have un : stL (bdB AK AP nF) (s + 1) = if bdB AK AP nF s = true ∧ (stL (bdB AK AP nF) s).length < 8 then stL (bdB AK AP nF) s ++ [s] else stL (bdB AK AP nF) s := rfl
      refine BX3_seatBound_7 ⟨fun q => absurd q (by rw [f3]; exact nI_ge hs (by omega)), fun _ => ?_⟩
      rw [e.1]
      refine ⟨fun q => ?_, fun q => C_isBound hn f3 fT hs (fun b => ⟨_, rfl, fun z => absurd z (by decide), fun _ => ?_⟩) (fun b => ⟨_, rfl, fun _ => ?_, fun z => absurd rfl z⟩)⟩
      · have f8 := (nI_leI (a := 8) (by omega) (by omega)).mp q
        have : stL (bdB AK AP nF) nF = stL (bdB AK AP nF) s := by
          have k := stL_full f8 (nF - s)
          rw [show s + (nF - s) = nF by omega] at k
          exact k
        exact h σ' c (by rw [this]; exact e)
      · have f8 : (stL (bdB AK AP nF) s).length < 8 := by
          by_cases z : (stL (bdB AK AP nF) s).length < 8
          · exact z
          · exact absurd (nI_le (a := 8) (by omega) (by omega)) q
        rw [un, if_pos ⟨b, f8⟩] at ih
        rw [e.1, cl (by omega), u1_cell (show 22 ≠ 99 by decide), e.1, nI_1, nI_1]
        refine ⟨nvin (by omega) (by omega), ih _ ((c.u (Or.inr rfl)).u (Or.inl rfl)) ⟨?_, fun i hi => ?_⟩⟩
        · rw [u1_same, List.length_append]; rfl
        · rw [List.length_append] at hi
          have hi2 : i < (stL (bdB AK AP nF) s).length + 1 := hi
          rw [u1_cell (by decide)]
          by_cases z : i = (stL (bdB AK AP nF) s).length
          · rw [z, u1_same, gd_r]
          · rw [u1_slot z, gd_l (by omega)]; exact e.2 i (by omega)
      · rw [un, if_neg (fun z => b z.1)] at ih
        rw [nI_1]
        exact ih σ' c e
  exact EX3_seatBound (L 0 (by omega) _ (Ch2.rf.u (Or.inl rfl)) ⟨u1_same, fun i hi => absurd hi (Nat.not_lt_zero i)⟩)
end GD
