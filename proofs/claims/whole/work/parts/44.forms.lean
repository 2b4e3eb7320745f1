/-! ===== ones of a number ===== -/
theorem nx_xor (a b : Nat) : nI a ^^^ nI b = nI (a ^^^ b) := by
  apply Int32.toBitVec_inj.1
  show BitVec.ofNat 32 a ^^^ BitVec.ofNat 32 b = BitVec.ofNat 32 (a ^^^ b)
  apply BitVec.eq_of_getLsbD_eq
  intro i hi
  simp [hi]
def bcx (x0 : Int32) : Int32 := ((((((((x0 - ((((x0).toUInt32 >>> ((1 : Int32).toUInt32 &&& Int32.toUInt32 31)).toInt32) &&& 1431655765)) &&& 858993459) + ((((x0 - ((((x0).toUInt32 >>> ((1 : Int32).toUInt32 &&& Int32.toUInt32 31)).toInt32) &&& 1431655765)).toUInt32 >>> ((2 : Int32).toUInt32 &&& Int32.toUInt32 31)).toInt32) &&& 858993459)) + (((((x0 - ((((x0).toUInt32 >>> ((1 : Int32).toUInt32 &&& Int32.toUInt32 31)).toInt32) &&& 1431655765)) &&& 858993459) + ((((x0 - ((((x0).toUInt32 >>> ((1 : Int32).toUInt32 &&& Int32.toUInt32 31)).toInt32) &&& 1431655765)).toUInt32 >>> ((2 : Int32).toUInt32 &&& Int32.toUInt32 31)).toInt32) &&& 858993459)).toUInt32 >>> ((4 : Int32).toUInt32 &&& Int32.toUInt32 31)).toInt32)) &&& 252645135) + (((((((x0 - ((((x0).toUInt32 >>> ((1 : Int32).toUInt32 &&& Int32.toUInt32 31)).toInt32) &&& 1431655765)) &&& 858993459) + ((((x0 - ((((x0).toUInt32 >>> ((1 : Int32).toUInt32 &&& Int32.toUInt32 31)).toInt32) &&& 1431655765)).toUInt32 >>> ((2 : Int32).toUInt32 &&& Int32.toUInt32 31)).toInt32) &&& 858993459)) + (((((x0 - ((((x0).toUInt32 >>> ((1 : Int32).toUInt32 &&& Int32.toUInt32 31)).toInt32) &&& 1431655765)) &&& 858993459) + ((((x0 - ((((x0).toUInt32 >>> ((1 : Int32).toUInt32 &&& Int32.toUInt32 31)).toInt32) &&& 1431655765)).toUInt32 >>> ((2 : Int32).toUInt32 &&& Int32.toUInt32 31)).toInt32) &&& 858993459)).toUInt32 >>> ((4 : Int32).toUInt32 &&& Int32.toUInt32 31)).toInt32)) &&& 252645135).toUInt32 >>> ((8 : Int32).toUInt32 &&& Int32.toUInt32 31)).toInt32)) + ((((((((x0 - ((((x0).toUInt32 >>> ((1 : Int32).toUInt32 &&& Int32.toUInt32 31)).toInt32) &&& 1431655765)) &&& 858993459) + ((((x0 - ((((x0).toUInt32 >>> ((1 : Int32).toUInt32 &&& Int32.toUInt32 31)).toInt32) &&& 1431655765)).toUInt32 >>> ((2 : Int32).toUInt32 &&& Int32.toUInt32 31)).toInt32) &&& 858993459)) + (((((x0 - ((((x0).toUInt32 >>> ((1 : Int32).toUInt32 &&& Int32.toUInt32 31)).toInt32) &&& 1431655765)) &&& 858993459) + ((((x0 - ((((x0).toUInt32 >>> ((1 : Int32).toUInt32 &&& Int32.toUInt32 31)).toInt32) &&& 1431655765)).toUInt32 >>> ((2 : Int32).toUInt32 &&& Int32.toUInt32 31)).toInt32) &&& 858993459)).toUInt32 >>> ((4 : Int32).toUInt32 &&& Int32.toUInt32 31)).toInt32)) &&& 252645135) + (((((((x0 - ((((x0).toUInt32 >>> ((1 : Int32).toUInt32 &&& Int32.toUInt32 31)).toInt32) &&& 1431655765)) &&& 858993459) + ((((x0 - ((((x0).toUInt32 >>> ((1 : Int32).toUInt32 &&& Int32.toUInt32 31)).toInt32) &&& 1431655765)).toUInt32 >>> ((2 : Int32).toUInt32 &&& Int32.toUInt32 31)).toInt32) &&& 858993459)) + (((((x0 - ((((x0).toUInt32 >>> ((1 : Int32).toUInt32 &&& Int32.toUInt32 31)).toInt32) &&& 1431655765)) &&& 858993459) + ((((x0 - ((((x0).toUInt32 >>> ((1 : Int32).toUInt32 &&& Int32.toUInt32 31)).toInt32) &&& 1431655765)).toUInt32 >>> ((2 : Int32).toUInt32 &&& Int32.toUInt32 31)).toInt32) &&& 858993459)).toUInt32 >>> ((4 : Int32).toUInt32 &&& Int32.toUInt32 31)).toInt32)) &&& 252645135).toUInt32 >>> ((8 : Int32).toUInt32 &&& Int32.toUInt32 31)).toInt32)).toUInt32 >>> ((16 : Int32).toUInt32 &&& Int32.toUInt32 31)).toInt32)) &&& 63)
theorem bcx_64 : ∀ a, a < 64 → ∀ b, b < 64 → bcx (nI (64 * a + b)) = nI (pc 24 (64 * a + b)) := by decide +kernel
theorem bcx_12 (n : Nat) (hn : n < 4096) : bcx (nI n) = nI (pc 24 n) := by
  have := bcx_64 (n / 64) (by omega) (n % 64) (by omega)
  rw [show 64 * (n / 64) + n % 64 = n by omega] at this
  exact this
theorem C_bitCount {N : Nat} {σ : Sg} {Q : Option Value → Sg → Prop} {n : Nat} (hn : n < 4096) (h : Q (some (.int (nI (pc 24 n)))) σ) : EvM N mJ6_bitCount_0f7a4 [.int (nI n)] σ Q := by
  refine EJ6_bitCount_0f7a4 ?_
  have e := bcx_12 n hn
  unfold bcx at e
  rw [e]
  exact h
theorem shr_bit {n k : Nat} (hn : n < 2147483648) (hk : k < 31) : (nI n >>> (nI k &&& 31)) &&& 1 = nI (n / 2 ^ k % 2) := by
  rw [pk_shrN (by omega) (nI k &&& 31) k (by rw [show ∀ j : Nat, j < 32 → ((nI j &&& 31).toBitVec.smod 32).toNat = j from by decide]; omega)]
  exact pk_andN (Nat.lt_of_le_of_lt (Nat.div_le_self _ _) (by omega)) 1 (by decide)
theorem C_bits {N : Nat} {σ : Sg} {Q : Option Value → Sg → Prop} {n : Nat} (hn : n < 2147483648) (h : Q (some (.int (nI (pc 24 n)))) σ) : EvM N mX10_bits [.int (nI n)] σ Q := by
  have L : ∀ i, i ≤ 24 → KX10_bits_4 N σ Q (nI n) (nI (pc i n)) (nI i) := by
    refine for_up ?_ ?_
    · exact BX10_bits_4 ⟨fun _ => h, fun q => absurd (show (24 : Int32) ≤ nI 24 by decide) q⟩
    · intro i hi ih
      refine BX10_bits_4 ⟨fun q => ?_, fun _ => ?_⟩
      · exfalso; clear ih h; ((try simp (disch := (first | omega | ((try simp (disch := omega) only [i_nI, Int32.reduceToInt, i_l]) <;> omega))) only [i_le, i_lt, i_eq, Int32.reduceToInt, i_nI, i_l, li0, vp_in_iff, i_sub, i_add] at *) <;> omega)
      · rw [shr_bit hn (by omega), nI_add, nI_1]
        exact ih
  exact EX10_bits (L 0 (by omega))
/-! ===== grouping ===== -/
def Gg (n : Nat) (g : Nat → Nat) : Prop := (∀ x, g x ≤ x) ∧ (∀ x, g (g x) = g x) ∧ ∀ x, n ≤ x → g x = x
theorem Gg.join {n a b : Nat} {g : Nat → Nat} (h : Gg n g) (ha : a < n) (hb : b < n) : Gg n (jn a b g) := by
  obtain ⟨h1, h2, h3⟩ := h
  have kk : ∀ y, y = min (g a) (g b) → g y = y := fun y e => by
    rcases Nat.le_total (g a) (g b) with q | q
    · rw [Nat.min_eq_left q] at e; rw [e]; exact h2 a
    · rw [Nat.min_eq_right q] at e; rw [e]; exact h2 b
  refine ⟨fun x => ?_, fun x => ?_, fun x hx => ?_⟩
  · unfold jn
    by_cases e : g x = max (g a) (g b)
    · rw [if_pos e]; have := h1 x; omega
    · rw [if_neg e]; exact h1 x
  · unfold jn
    by_cases e : g x = max (g a) (g b)
    · rw [if_pos e, kk _ rfl]
      by_cases e2 : min (g a) (g b) = max (g a) (g b)
      · rw [if_pos e2]
      · rw [if_neg e2]
    · rw [if_neg e, h2 x, if_neg e]
  · unfold jn
    rw [h3 x hx, if_neg]
    have := h1 a; have := h1 b
    omega
theorem grI_s (like : Nat → Nat → Bool) (a b : Nat) (g : Nat → Nat) : grI like a (b + 1) g = if like a b = true then jn a b (grI like a b g) else grI like a b g := rfl
theorem Gg.gI {like : Nat → Nat → Bool} {n a : Nat} (ha : a < n) : ∀ (b : Nat) (g : Nat → Nat), b ≤ a → Gg n g → Gg n (grI like a b g) := by
  intro b
  induction b with
  | zero => intro g _ h; exact h
  | succ b ih =>
    intro g hb h
    show Gg n (if like a b = true then _ else _)
    by_cases e : like a b = true
    · rw [if_pos e]; exact (ih g (by omega) h).join ha (by omega)
    · rw [if_neg e]; exact ih g (by omega) h
theorem Gg.gO {like : Nat → Nat → Bool} : ∀ n, Gg n (grO like n) := by
  intro n
  induction n with
  | zero => exact ⟨fun x => Nat.le_refl _, fun x => rfl, fun x _ => rfl⟩
  | succ n ih => exact Gg.gI (Nat.lt_succ_self n) n _ (Nat.le_refl _) ⟨ih.1, ih.2.1, fun x hx => ih.2.2 x (by omega)⟩
theorem jn_same {a b : Nat} {g : Nat → Nat} (h : g a = g b) : jn a b g = g := by
  funext x
  unfold jn
  rw [h, Nat.max_self, Nat.min_self]
  by_cases e : g x = g b
  · rw [if_pos e, e]
  · rw [if_neg e]
theorem i_min {a b : Nat} (ha : a < 2147483648) (hb : b < 2147483648) : (if nI b < nI a then nI b else nI a) = nI (min a b) := by
  by_cases h : b < a
  · rw [if_pos (nI_lt h (by omega)), Nat.min_eq_right (by omega)]
  · rw [if_neg (nI_nlt (by omega) (by omega)), Nat.min_eq_left (by omega)]
theorem i_max {a b : Nat} (ha : a < 2147483648) (hb : b < 2147483648) : (if nI a < nI b then nI b else nI a) = nI (max a b) := by
  by_cases h : a < b
  · rw [if_pos (nI_lt h (by omega)), Nat.max_eq_right (by omega)]
  · rw [if_neg (nI_nlt (by omega) (by omega)), Nat.max_eq_left (by omega)]
section FM
variable {N : Nat} {σ : Sg} {Q : Option Value → Sg → Prop}
theorem C_join {r a b : Nat} {g : Nat → Nat} (hy : lay r = .inl (0, 24)) (hq : r < KC) (ha : a < 24) (hb : b < a) (hg : ∀ x, g x ≤ x) (h0 : ∀ x, x ≤ a → σ.1 r x = nI (g x)) (h : ∀ σ' : Sg, Rw r σ σ' → (∀ x, x ≤ a → σ'.1 r x = nI (jn a b g x)) → Q none σ') : EvM (N + 1) mX2_join [.ref r, .int (nI a), .int (nI b)] σ Q := by
  have va : vp_in (nI a) 24 := vp_in_nI ha (by omega)
  have vb : vp_in (nI b) 24 := vp_in_nI (by omega) (by omega)
  have ga := hg a
  have gb := hg b
  have L : ∀ i, i ≤ a + 1 → ∀ σ' : Sg, Rw r σ σ' → (∀ x, x < i → σ'.1 r x = nI (jn a b g x)) → (∀ x, i ≤ x → x ≤ a → σ'.1 r x = nI (g x)) → KX2_join_24 N σ' Q r (nI a) (nI (min (g a) (g b))) (nI (max (g a) (g b))) (nI i) := by
    refine for_up ?_ ?_
    · intro σ' h1 h2 h3
      refine BX2_join_24 hy hq ⟨fun _ => h σ' h1 (fun x hx => h2 x (by omega)), fun q => ?_⟩
      exfalso; clear h h0 hg h1 h2 h3 va vb; ((try simp (disch := (first | omega | ((try simp (disch := omega) only [i_nI, Int32.reduceToInt, i_l]) <;> omega))) only [i_le, i_lt, i_eq, Int32.reduceToInt, i_nI, i_l, li0, vp_in_iff, i_sub, i_add] at *) <;> omega)
    · intro i hi ih σ' h1 h2 h3
      refine BX2_join_24 hy hq ⟨fun q => ?_, fun _ => ⟨vp_in_nI (by omega) (by omega), ?_⟩⟩
      · exfalso; clear h h0 hg h1 h2 h3 ih va vb; ((try simp (disch := (first | omega | ((try simp (disch := omega) only [i_nI, Int32.reduceToInt, i_l]) <;> omega))) only [i_le, i_lt, i_eq, Int32.reduceToInt, i_nI, i_l, li0, vp_in_iff, i_sub, i_add] at *) <;> omega)
      · have gi := hg i
        rw [cl (by omega), h3 i (Nat.le_refl _) (by omega), nI_1]
        refine ⟨fun q => ⟨vp_in_nI (by omega) (by omega), ih _ h1.u1 (fun x hx => ?_) (fun x hx hx2 => ?_)⟩, fun q => ih _ h1 (fun x hx => ?_) (fun x hx hx2 => h3 x (by omega) hx2)⟩
        · by_cases e : x = i
          · subst e
            rw [u1_same]
            have : g x = max (g a) (g b) := (nI_eq (by omega) (by omega)).mp q
            unfold jn
            rw [if_pos this]
          · rw [u1_slot e]; exact h2 x (by omega)
        · rw [u1_slot (by omega)]; exact h3 x (by omega) hx2
        · by_cases e : x = i
          · subst e
            have : ¬ g x = max (g a) (g b) := fun z => q (by rw [z])
            unfold jn
            rw [if_neg this]
            exact h3 x (Nat.le_refl _) (by omega)
          · exact h2 x (by omega)
  refine EX2_join hy hq ⟨va, vb, va, vb, ?_⟩
  rw [cl (by omega), cl (by omega), h0 a (Nat.le_refl _), h0 b (by omega), i_min (by omega) (by omega), i_max (by omega) (by omega)]
  exact L 0 (by omega) σ Rw.rf (fun x hx => absurd hx (by omega)) (fun x _ hx => h0 x hx)
theorem C_group {r nF v : Nat} {ft : Nat → Nat} (hy : lay r = .inl (0, 24)) (hq : r < KC) (hr1 : r ≠ 1) (hr2 : r ≠ 2) (hn : nF ≤ 24) (hv : v ≤ 12) (hs : σ.1 1 3 = nI nF) (hf : ∀ i, i < nF → ft i < 4096 ∧ σ.1 2 i = nI (ft i)) (h : ∀ σ' : Sg, Rw r σ σ' → (∀ x, x < nF → σ'.1 r x = nI (rep ft nF v x)) → Q none σ') : EvM (N + 2) mX2_group [.ref 1, .int (nI v), .ref r] σ Q := by
  have xl : ∀ a b : Nat, a < 4096 → b < 4096 → a ^^^ b < 4096 := fun a b p q => Nat.xor_lt_two_pow (n := 12) p q
  have L : ∀ f, f ≤ nF → ∀ σ' : Sg, Rw r σ σ' → (∀ x, x < f → σ'.1 r x = nI (grO (lkB ft v) f x)) → KX2_group_2 N σ' Q (nI v) r (nI f) := by
    refine for_up ?_ ?_
    · intro σ' h1 h2
      have e : σ'.1 1 3 = nI nF := by rw [h1.1 1 (Ne.symm hr1)]; exact hs
      refine BX2_group_2 hy hq ⟨fun _ => h σ' h1 h2, fun q => absurd ?_ q⟩
      rw [e]; exact nI_le (Nat.le_refl _) (by omega)
    · intro f hf1 ih σ' h1 h2
      have e : σ'.1 1 3 = nI nF := by rw [h1.1 1 (Ne.symm hr1)]; exact hs
      refine BX2_group_2 hy hq ⟨fun q => absurd q ?_, fun _ => ⟨vp_in_nI (by omega) (by omega), ?_⟩⟩
      · rw [e]; exact nI_ge hf1 (by omega)
      · rw [cl (by omega)]
        have G0 : Gg f (grO (lkB ft v) f) := Gg.gO f
        have J : ∀ b, b ≤ f → ∀ σ2 : Sg, Rw r σ σ2 → (∀ x, x ≤ f → σ2.1 r x = nI (grI (lkB ft v) f b (grO (lkB ft v) f) x)) → KX2_group_17 N σ2 Q (nI v) r (nI f) (nI b) := by
          refine for_up ?_ ?_
          · intro σ2 g1 g2
            refine BX2_group_17 hy hq ⟨fun _ => ?_, fun q => absurd (nI_le (Nat.le_refl _) (by omega)) q⟩
            rw [nI_1]
            exact ih σ2 g1 (fun x hx => g2 x (by omega))
          · intro b hb ihb σ2 g1 g2
            have a2 : ∀ x, σ2.1 2 x = σ.1 2 x := fun x => g1.1 2 (Ne.symm hr2) x
            obtain ⟨f1, f2⟩ := hf f (by omega)
            obtain ⟨f3, f4⟩ := hf b (by omega)
            refine BX2_group_17 hy hq ⟨fun q => absurd q (nI_ge hb (by omega)), fun _ => ⟨vp_in_nI (by omega) (by omega), vp_in_nI (by omega) (by omega), ?_⟩⟩
            rw [cl (by omega), cl (by omega), a2, a2, f2, f4, nx_xor]
            have hpc : pc 24 (ft f ^^^ ft b) < 2147483648 := by
              have : ∀ k n, pc k n ≤ k := by
                intro k n
                induction k with
                | zero => exact Nat.le_refl _
                | succ k ih => unfold pc; have := Nat.mod_lt (n / 2 ^ k) (show 0 < 2 by decide); omega
              have := this 24 (ft f ^^^ ft b)
              omega
            refine C_bitCount (xl _ _ f1 f3) ⟨_, rfl, fun q => ?_, fun q => ?_⟩
            · rw [nI_1]
              refine ihb σ2 g1 (fun x hx => ?_)
              have hl : ¬ lkB ft v f b = true := by
                unfold lkB
                rw [decide_eq_true_iff]
                have := (nI_ltI (by omega) (by omega)).mp q
                omega
              rw [grI_s, if_neg hl]
              exact g2 x hx
            · have hl : lkB ft v f b = true := by
                unfold lkB
                rw [decide_eq_true_iff]
                have : ¬ v < pc 24 (ft f ^^^ ft b) := fun z => q (nI_lt z (by omega))
                omega
              have G1 : Gg (f + 1) (grI (lkB ft v) f b (grO (lkB ft v) f)) := Gg.gI (Nat.lt_succ_self f) b _ (by omega) ⟨G0.1, G0.2.1, fun x hx => G0.2.2 x (by omega)⟩
              refine C_join hy hq (by omega) hb G1.1 g2 fun σ3 k1 k2 => ⟨rfl, ?_⟩
              rw [nI_1]
              refine ihb σ3 ⟨fun a ha j => by rw [k1.1 a ha]; exact g1.1 a ha j, by rw [k1.2]; exact g1.2⟩ (fun x hx => ?_)
              rw [grI_s, if_pos hl]
              exact k2 x hx
        refine J 0 (by omega) _ h1.u1 (fun x hx => ?_)
        show _ = nI (grO (lkB ft v) f x)
        by_cases e2 : x = f
        · subst e2
          rw [u1_same, G0.2.2 x (Nat.le_refl _)]
        · rw [u1_slot e2]; exact h2 x (by omega)
  exact EX2_group hy hq (L 0 (by omega) σ Rw.rf (fun x hx => absurd hx (by omega)))
theorem C_findSigns {nF v : Nat} {ft : Nat → Nat} (hn : nF ≤ 24) (hv : v ≤ 12) (hs : σ.1 245 0 = nI nF) (hf : ∀ i, i < nF → ft i < 4096 ∧ σ.1 246 i = nI (ft i)) (h : ∀ σ' : Sg, Rw 247 σ σ' → (∀ x, x < nF → σ'.1 247 x = nI (rep ft nF v x)) → Q none σ') : EvM (N + 1) mX10_findSigns [.ref 245, .int (nI v)] σ Q := by
  have xl : ∀ a b : Nat, a < 4096 → b < 4096 → a ^^^ b < 4096 := fun a b p q => Nat.xor_lt_two_pow (n := 12) p q
  have hpc : ∀ k n, pc k n ≤ k := by
    intro k n
    induction k with
    | zero => exact Nat.le_refl _
    | succ k ih => unfold pc; have := Nat.mod_lt (n / 2 ^ k) (show 0 < 2 by decide); omega
  have ez : ∀ σ' : Sg, Rw 247 σ σ' → σ'.1 245 0 = nI nF := fun σ' h1 => by rw [h1.1 245 (by decide)]; exact hs
  have B : ∀ a, a ≤ nF → ∀ σ' : Sg, Rw 247 σ σ' → (∀ x, x < nF → σ'.1 247 x = nI (grO (lkB ft v) a x)) → KX10_findSigns_25 N σ' Q (nI v) (nI a) := by
    refine for_up ?_ ?_
    · intro σ' h1 h2
      refine BX10_findSigns_25 ⟨fun _ => h σ' h1 h2, fun q => absurd ?_ q⟩
      rw [ez σ' h1]; exact nI_le (Nat.le_refl _) (by omega)
    · intro a ha ih σ' h1 h2
      refine BX10_findSigns_25 ⟨fun q => absurd q ?_, fun _ => ?_⟩
      · rw [ez σ' h1]; exact nI_ge ha (by omega)
      · have G0 : Gg a (grO (lkB ft v) a) := Gg.gO a
        have J : ∀ b, b ≤ a → ∀ σ2 : Sg, Rw 247 σ σ2 → (∀ x, x < nF → σ2.1 247 x = nI (grI (lkB ft v) a b (grO (lkB ft v) a) x)) → KX10_findSigns_35 N σ2 Q (nI v) (nI a) (nI b) := by
          refine for_up ?_ ?_
          · intro σ2 g1 g2
            refine BX10_findSigns_35 ⟨fun _ => ?_, fun q => absurd (nI_le (Nat.le_refl _) (by omega)) q⟩
            rw [nI_1]
            exact ih σ2 g1 g2
          · intro b hb ihb σ2 g1 g2
            have a2 : ∀ x, σ2.1 246 x = σ.1 246 x := fun x => g1.1 246 (by decide) x
            obtain ⟨f1, f2⟩ := hf a (by omega)
            obtain ⟨f3, f4⟩ := hf b (by omega)
            have va : vp_in (nI a) 24 := vp_in_nI (by omega) (by omega)
            have vb : vp_in (nI b) 24 := vp_in_nI (by omega) (by omega)
            refine BX10_findSigns_35 ⟨fun q => absurd q (nI_ge hb (by omega)), fun _ => ⟨va, vb, ?_⟩⟩
            rw [cl (by omega), cl (by omega), a2, a2, f2, f4, nx_xor]
            have hp24 := hpc 24 (ft a ^^^ ft b)
            have x12 := xl _ _ f1 f3
            refine C_bits (by omega) ⟨_, rfl, fun q => ?_, fun q => ⟨va, vb, ?_⟩⟩
            · rw [nI_1]
              refine ihb σ2 g1 (fun x hx => ?_)
              have hl : ¬ lkB ft v a b = true := by
                unfold lkB
                rw [decide_eq_true_iff]
                have := (nI_ltI (by omega) (by omega)).mp q
                omega
              rw [grI_s, if_neg hl]
              exact g2 x hx
            · have hl : lkB ft v a b = true := by
                unfold lkB
                rw [decide_eq_true_iff]
                have : ¬ v < pc 24 (ft a ^^^ ft b) := fun z => q (nI_lt z (by omega))
                omega
              generalize hg : grI (lkB ft v) a b (grO (lkB ft v) a) = g at g2
              have G1 : Gg (a + 1) g := hg ▸ Gg.gI (Nat.lt_succ_self a) b _ (by omega) ⟨G0.1, G0.2.1, fun x hx => G0.2.2 x (by omega)⟩
              have nx : ∀ x, grI (lkB ft v) a (b + 1) (grO (lkB ft v) a) x = jn a b g x := fun x => by
                rw [grI_s, if_pos hl, hg]
              have ga := G1.1 a
              have gb := G1.1 b
              rw [g2 a (by omega), g2 b (by omega)]
              have R : KX10_findSigns_128 N σ2 Q (nI v) (nI a) (nI b) (nI (min (g a) (g b))) (nI (max (g a) (g b))) 0 := by
                have T : ∀ i, i ≤ nF → ∀ σ3 : Sg, Rw 247 σ σ3 → (∀ x, x < i → σ3.1 247 x = nI (jn a b g x)) → (∀ x, i ≤ x → x < nF → σ3.1 247 x = nI (g x)) → KX10_findSigns_128 N σ3 Q (nI v) (nI a) (nI b) (nI (min (g a) (g b))) (nI (max (g a) (g b))) (nI i) := by
                  refine for_up ?_ ?_
                  · intro σ3 k1 k2 k3
                    refine BX10_findSigns_128 ⟨fun _ => ?_, fun q => absurd ?_ q⟩
                    · rw [nI_1]
                      exact ihb σ3 k1 (fun x hx => by rw [nx]; exact k2 x hx)
                    · rw [ez σ3 k1]; exact nI_le (Nat.le_refl _) (by omega)
                  · intro i hi ihi σ3 k1 k2 k3
                    have vi : vp_in (nI i) 24 := vp_in_nI (by omega) (by omega)
                    have gi := G1.1 i
                    refine BX10_findSigns_128 ⟨fun q => absurd q ?_, fun _ => ⟨vi, ?_⟩⟩
                    · rw [ez σ3 k1]; exact nI_ge hi (by omega)
                    · rw [cl (by omega), k3 i (Nat.le_refl _) hi, nI_1]
                      refine ⟨fun q => ⟨vi, ihi _ k1.u1 (fun x hx => ?_) (fun x hx hx2 => ?_)⟩, fun q => ⟨vi, vi, ihi _ k1.u1 (fun x hx => ?_) (fun x hx hx2 => ?_)⟩⟩
                      · by_cases e : x = i
                        · subst e
                          have : g x = max (g a) (g b) := (nI_eq (by omega) (by omega)).mp q
                          rw [u1_same]; unfold jn; rw [if_pos this]
                        · rw [u1_slot e]; exact k2 x (by omega)
                      · rw [u1_slot (by omega)]; exact k3 x (by omega) hx2
                      · by_cases e : x = i
                        · subst e
                          have : ¬ g x = max (g a) (g b) := fun z => q (by rw [z])
                          rw [u1_same]; unfold jn; rw [if_neg this]
                        · rw [u1_slot e]; exact k2 x (by omega)
                      · rw [u1_slot (by omega)]; exact k3 x (by omega) hx2
                exact T 0 (by omega) σ2 g1 (fun x hx => absurd hx (by omega)) (fun x _ hx => g2 x hx)
              refine ⟨fun q => ?_, fun q => ⟨va, vb, fun q2 => ⟨vb, va, vb, ?_⟩, fun q2 => ⟨va, va, vb, ?_⟩⟩⟩
              · rw [nI_1]
                have : g a = g b := (nI_eq (by omega) (by omega)).mp q
                exact ihb σ2 g1 (fun x hx => by rw [nx, jn_same this]; exact g2 x hx)
              · have := (nI_leI (by omega) (by omega)).mp q2
                rw [nI_add, pk_sub (by omega), show g a + g b - g b = max (g a) (g b) by omega, show nI (g b) = nI (min (g a) (g b)) by congr 1; omega]
                exact R
              · have : ¬ g b ≤ g a := fun z => q2 (nI_le z (by omega))
                rw [nI_add, pk_sub (by omega), show g a + g b - g a = max (g a) (g b) by omega, show nI (g a) = nI (min (g a) (g b)) by congr 1; omega]
                exact R
        exact J 0 (by omega) σ' h1 h2
  have A : ∀ i, i ≤ nF → ∀ σ' : Sg, Rw 247 σ σ' → (∀ x, x < i → σ'.1 247 x = nI x) → KX10_findSigns_2 N σ' Q (nI v) (nI i) := by
    refine for_up ?_ ?_
    · intro σ' h1 h2
      refine BX10_findSigns_2 ⟨fun _ => B 0 (by omega) σ' h1 h2, fun q => absurd ?_ q⟩
      rw [ez σ' h1]; exact nI_le (Nat.le_refl _) (by omega)
    · intro i hi ih σ' h1 h2
      refine BX10_findSigns_2 ⟨fun q => absurd q ?_, fun _ => ⟨vp_in_nI (by omega) (by omega), ?_⟩⟩
      · rw [ez σ' h1]; exact nI_ge hi (by omega)
      · rw [cl (by omega), nI_1]
        refine ih _ h1.u1 (fun x hx => ?_)
        by_cases e : x = i
        · subst e; exact u1_same
        · rw [u1_slot e]; exact h2 x (by omega)
  exact EX10_findSigns (A 0 (by omega) σ Rw.rf (fun x hx => absurd hx (by omega)))
end FM
