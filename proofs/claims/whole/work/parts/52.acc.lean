/-! ===== accounts ===== -/
theorem nx_or (a b : Nat) : nI a ||| nI b = nI (a ||| b) := by
  apply Int32.toBitVec_inj.1
  show BitVec.ofNat 32 a ||| BitVec.ofNat 32 b = BitVec.ofNat 32 (a ||| b)
  apply BitVec.eq_of_getLsbD_eq
  intro i hi
  simp [hi]
theorem one_shl {p : Nat} (hp : p < 31) : (1 : Int32) <<< (nI p &&& 31) = nI (2 ^ p) := by
  have : 2 ^ p ≤ 2 ^ 30 := Nat.pow_le_pow_right (by decide) (by omega)
  rw [show (1 : Int32) = nI 1 from rfl, pk_shlN _ p (sh31 _ (by omega)) (by omega), Nat.one_mul]
/-- what row r picks for mark m -/
def pik (r m : Nat) : Nat := r / 2 ^ (3 * (3 - m)) % 8
theorem pik_lt (r m : Nat) : pik r m < 8 := Nat.mod_lt _ (by decide)
theorem pik_i {r m : Nat} (hr : r < 4096) (hm : m < 4) : (nI r >>> ((3 * (3 - nI m)) &&& 31)) &&& 7 = nI (pik r m) := by
  rw [show (3 : Int32) - nI m = nI (3 - m) from pk_sub (a := 3) (by omega), show (3 : Int32) * nI (3 - m) = nI (3 * (3 - m)) from pk_mul 3 _, pk_shrN (by omega) _ (3 * (3 - m)) (sh31 _ (by omega))]
  exact pk_andN (Nat.lt_of_le_of_lt (Nat.div_le_self _ _) (by omega)) 3 (by decide)
def LV (p : Nat) : Int32 := ([1, 2, 4, 5, 6, 10, 12, 60] : List Int32).getD p 0
def ult (p0 p1 p2 p3 : Nat) : Bool := p0 != p1 && p0 != p2 && p0 != p3 && p1 != p2 && p1 != p3 && p2 != p3
def unl (r : Nat) : Bool := ult (pik r 0) (pik r 1) (pik r 2) (pik r 3)
theorem ult_pc : ∀ a, a < 8 → ∀ b, b < 8 → ∀ c, c < 8 → ∀ d, d < 8 → (pc 24 (((2 ^ a ||| 2 ^ b) ||| 2 ^ c) ||| 2 ^ d) == 4) = ult a b c d ∧ ((2 ^ a ||| 2 ^ b) ||| 2 ^ c) ||| 2 ^ d < 256 := by decide +kernel
def sumI (f : Nat → Int32) : Nat → Int32
  | 0 => 0
  | n + 1 => sumI f n + f n
theorem sumI_s (f : Nat → Int32) (n : Nat) : sumI f (n + 1) = sumI f n + f n := rfl
/-- whether row r fits all accounts -/
def adds (nA : Nat) (ex : Nat → Nat → Int32) (r : Nat) : Prop := ∀ a, a < nA → sumI (fun m => ex a m * LV (pik r m)) 4 = 0
def fitR (nA : Nat) (ex : Nat → Nat → Int32) (r : Nat) : Prop := unl r = true ∧ adds nA ex r
noncomputable def fR (nA : Nat) (ex : Nat → Nat → Int32) (r : Nat) : Bool := @decide (fitR nA ex r) (Classical.propDecidable _)
theorem fR_iff {nA : Nat} {ex : Nat → Nat → Int32} {r : Nat} : fR nA ex r = true ↔ fitR nA ex r := by unfold fR; exact @decide_eq_true_iff (fitR nA ex r) (Classical.propDecidable _)
noncomputable def sn (nA : Nat) (ex : Nat → Nat → Int32) (m : Nat) : Nat → Nat
  | 0 => 0
  | r + 1 => if fR nA ex r = true then sn nA ex m r ||| 2 ^ pik r m else sn nA ex m r
noncomputable def fi (nA : Nat) (ex : Nat → Nat → Int32) (m : Nat) : Nat → Nat
  | 0 => 0
  | r + 1 => if fR nA ex r = true ∧ cnt (fR nA ex) r = 0 then pik r m else fi nA ex m r
theorem sn_lt (nA : Nat) (ex : Nat → Nat → Int32) (m : Nat) : ∀ r, sn nA ex m r < 256 := by
  intro r
  induction r with
  | zero => exact (by decide : (0 : Nat) < 256)
  | succ r ih =>
    unfold sn
    by_cases h : fR nA ex r = true
    · rw [if_pos h]
      exact Nat.or_lt_two_pow (n := 8) ih (Nat.pow_lt_pow_right (by decide) (pik_lt r m))
    · rw [if_neg h]; exact ih
theorem fi_lt (nA : Nat) (ex : Nat → Nat → Int32) (m : Nat) : ∀ r, fi nA ex m r < 8 := by
  intro r
  induction r with
  | zero => exact (by decide : (0 : Nat) < 8)
  | succ r ih =>
    unfold fi
    by_cases h : fR nA ex r = true ∧ cnt (fR nA ex) r = 0
    · rw [if_pos h]; exact pik_lt r m
    · rw [if_neg h]; exact ih
theorem sn_s (nA : Nat) (ex : Nat → Nat → Int32) (m r : Nat) : sn nA ex m (r + 1) = if fR nA ex r = true then sn nA ex m r ||| 2 ^ pik r m else sn nA ex m r := rfl
theorem fi_s (nA : Nat) (ex : Nat → Nat → Int32) (m r : Nat) : fi nA ex m (r + 1) = if fR nA ex r = true ∧ cnt (fR nA ex) r = 0 then pik r m else fi nA ex m r := rfl
section AC
variable {N : Nat} {σ : Sg} {Q : Option Value → Sg → Prop} {nA : Nat} {ex : Nat → Nat → Int32}
/-- what the accounts are in the cells of the class -/
def EA (nA : Nat) (ex : Nat → Nat → Int32) (σ : Sg) : Prop := nA ≤ 8 ∧ σ.1 102 1 = nI nA ∧ ∀ a, a < nA → ∀ m, m < 4 → σ.1 (104 + a) m = ex a m
theorem EA.q {σ' : Sg} (h : EA nA ex σ) (c : Sm 4 σ σ') : EA nA ex σ' := ⟨h.1, by rw [c.1 102 1 rfl]; exact h.2.1, fun a ha m hm => by have := h.1; rw [c.1 (104 + a) m (modr_104 (by omega))]; exact h.2.2 a ha m hm⟩
theorem C_valueOf {p : Nat} (hp : p < 8) (h : Q (some (.int (LV p))) σ) : EvM N mX0_valueOf [.int (nI p)] σ Q := by
  refine EX0_valueOf ⟨fun q => absurd q (nI_pos (by omega)), fun _ => ⟨fun q => absurd q (nI_ge (b := 8) hp (by omega)), fun _ => ⟨nvin hp (by omega), ?_⟩⟩⟩
  rw [cl (by omega)]; exact h
theorem C_areUnlike {r : Nat} (hp : ∀ m, m < 4 → σ.1 112 m = nI (pik r m)) (h1 : unl r = true → Q (some (.int 1)) σ) (h0 : ¬ unl r = true → Q (some (.int 0)) σ) : EvM (N + 1) mX0_areUnlike [.ref 102] σ Q := by
  obtain ⟨u1', u2'⟩ := ult_pc _ (pik_lt r 0) _ (pik_lt r 1) _ (pik_lt r 2) _ (pik_lt r 3)
  have st : ∀ i x, i < 4 → KX0_areUnlike_4 N σ Q (nI (x ||| 2 ^ pik r i)) (nI (i + 1)) → KX0_areUnlike_4 N σ Q (nI x) (nI i) := by
    intro i x hi k
    have := pik_lt r i
    refine BX0_areUnlike_4 ⟨fun q => absurd q (nI_ge (b := 4) hi (by omega)), fun _ => ⟨nvin hi (by omega), ?_⟩⟩
    rw [cl (by omega), hp i hi, one_shl (by omega), nx_or, nI_1]
    exact k
  refine EX0_areUnlike (st 0 0 (by decide) (st 1 _ (by decide) (st 2 _ (by decide) (st 3 _ (by decide) ?_))))
  rw [Nat.zero_or]
  refine BX0_areUnlike_4 ⟨fun _ => C_bitCount (by omega) ⟨_, rfl, fun q => h1 ?_, fun q => h0 ?_⟩, fun q => absurd (nI_le (a := 4) (b := 4) (by decide) (by decide)) q⟩
  · have := (nI_eq (b := 4) (by have := pc_le 24 (((2 ^ pik r 0 ||| 2 ^ pik r 1) ||| 2 ^ pik r 2) ||| 2 ^ pik r 3); omega) (by omega)).mp q
    unfold unl; rw [← u1', this]; rfl
  · unfold unl; rw [← u1']
    intro z
    exact q (by rw [beq_iff_eq.mp z]; rfl)
theorem C_adds {r : Nat} (hA : EA nA ex σ) (hp : ∀ m, m < 4 → σ.1 112 m = nI (pik r m)) (h1 : adds nA ex r → Q (some (.int 1)) σ) (h0 : ¬ adds nA ex r → Q (some (.int 0)) σ) : EvM (N + 1) mX0_doAddUp [.ref 102] σ Q := by
  obtain ⟨a1, a2, a3⟩ := hA
  have L : ∀ a, a ≤ nA → (∀ b, b < a → sumI (fun m => ex b m * LV (pik r m)) 4 = 0) → KX0_doAddUp_2 N σ Q (nI a) := by
    refine for_up ?_ ?_
    · intro h; exact BX0_doAddUp_2 ⟨fun _ => h1 h, fun q => absurd (by rw [a2]; exact nI_le (Nat.le_refl _) (by omega)) q⟩
    · intro a ha ih h
      have J : ∀ m, m ≤ 4 → KX0_doAddUp_14 N σ Q (nI a) (sumI (fun m => ex a m * LV (pik r m)) m) (nI m) := by
        refine for_up ?_ ?_
        · refine BX0_doAddUp_14 ⟨fun _ => ⟨fun z => ?_, fun z => h0 (fun k => z (k a ha))⟩, fun q => absurd (nI_le (a := 4) (b := 4) (by decide) (by decide)) q⟩
          rw [nI_1]
          refine ih (fun b hb => ?_)
          by_cases e : b = a
          · rw [e]; exact z
          · exact h b (by omega)
        · intro m hm ihm
          refine BX0_doAddUp_14 ⟨fun q => absurd q (nI_ge (b := 4) hm (by omega)), fun _ => ⟨nvin (by omega) (by omega), nvin hm (by omega), nvin hm (by omega), ?_⟩⟩
          rw [cl (by omega), cl (by omega), hp m hm, a3 a ha m hm, nI_1]
          exact C_valueOf (pik_lt r m) ⟨_, rfl, ihm⟩
      exact BX0_doAddUp_2 ⟨fun q => absurd q (by rw [a2]; exact nI_ge ha (by omega)), fun _ => J 0 (by omega)⟩
  exact EX0_doAddUp (L 0 (by omega) (fun b hb => absurd hb (by omega)))
/-- what a search has found among the first r rows -/
def FA (nA : Nat) (ex : Nat → Nat → Int32) (r : Nat) (σ : Sg) : Prop := σ.1 102 5 = nI (cnt (fR nA ex) r) ∧ (∀ m, m < 4 → σ.1 114 m = nI (sn nA ex m r)) ∧ (0 < cnt (fR nA ex) r → ∀ m, m < 4 → σ.1 113 m = nI (fi nA ex m r))
theorem C_keep {r : Nat} (hr : r < 4096) (hp : ∀ m, m < 4 → σ.1 112 m = nI (pik r m)) (hI : FA nA ex r σ) (hf : fR nA ex r = true) (h : ∀ σ' : Sg, Chg [0] σ σ' → FA nA ex (r + 1) σ' → Q none σ') : EvM N mX0_keep [.ref 102] σ Q := by
  obtain ⟨i1, i2, i3⟩ := hI
  have cn := cnt_le (fR nA ex) r
  have L : ∀ i, i ≤ 4 → ∀ σ' : Sg, Chg [0] σ σ' → (∀ m, m < 4 → σ'.1 112 m = nI (pik r m)) → σ'.1 102 5 = nI (cnt (fR nA ex) r) → (∀ m, m < i → σ'.1 114 m = nI (sn nA ex m (r + 1))) → (∀ m, i ≤ m → m < 4 → σ'.1 114 m = nI (sn nA ex m r)) → (∀ m, m < i → σ'.1 113 m = nI (fi nA ex m (r + 1))) → (∀ m, i ≤ m → m < 4 → 0 < cnt (fR nA ex) r → σ'.1 113 m = nI (fi nA ex m r)) → KX0_keep_2 N σ' Q (nI i) := by
    refine for_up ?_ ?_
    · intro σ' k1 k2 k3 k4 k5 k6 k7
      refine BX0_keep_2 ⟨fun _ => ?_, fun q => absurd (nI_le (a := 4) (b := 4) (by decide) (by decide)) q⟩
      rw [k3, nI_1]
      refine h _ (k1.u1 (by decide)) ⟨?_, fun m hm => ?_, fun _ m hm => ?_⟩
      · rw [u1_same, cnt_s, if_pos hf]
      · rw [u1_cell (by decide)]; exact k4 m hm
      · rw [u1_cell (by decide)]; exact k6 m hm
    · intro i hi ih σ' k1 k2 k3 k4 k5 k6 k7
      have vi : vp_in (nI i) 4 := nvin hi (by omega)
      have pl := pik_lt r i
      have sl := sn_lt nA ex i r
      have m0 : ∀ j, modOf 113 j ∈ [0] := fun j => by rw [show modOf 113 j = 0 from rfl]; decide
      have m1 : ∀ j, modOf 114 j ∈ [0] := fun j => by rw [show modOf 114 j = 0 from rfl]; decide
      refine BX0_keep_2 ⟨fun q => absurd q (nI_ge (b := 4) hi (by omega)), fun _ => ⟨fun z => ⟨vi, vi, vi, vi, vi, ?_⟩, fun z => ⟨vi, vi, vi, ?_⟩⟩⟩
      · have z0 : cnt (fR nA ex) r = 0 := (nI_eq (b := 0) (by omega) (by omega)).mp (by rw [← k3]; exact z)
        rw [cl (by omega), u1_cell (show 114 ≠ 113 by decide), u1_cell (show 112 ≠ 113 by decide), k2 i hi, k5 i (Nat.le_refl _) hi, one_shl (by omega), nx_or, nI_1]
        refine ih _ ((k1.u1 (m0 _)).u1 (m1 _)) (fun m hm => ?_) ?_ (fun m hm => ?_) (fun m hm hm2 => ?_) (fun m hm => ?_) (fun m hm hm2 hc => absurd hc (by omega))
        · rw [u1_cell (by decide), u1_cell (by decide)]; exact k2 m hm
        · rw [u1_cell (by decide), u1_cell (by decide)]; exact k3
        · by_cases e : m = i
          · subst e; rw [u1_same, sn_s, if_pos hf]
          · rw [u1_slot e, u1_cell (by decide)]; exact k4 m (by omega)
        · rw [u1_slot (by omega), u1_cell (by decide)]; exact k5 m (by omega) hm2
        · by_cases e : m = i
          · subst e; rw [u1_cell (by decide), u1_same, fi_s, if_pos ⟨hf, z0⟩]
          · rw [u1_cell (by decide), u1_slot e]; exact k6 m (by omega)
      · have z0 : ¬ cnt (fR nA ex) r = 0 := fun e => z (by rw [k3, e]; rfl)
        rw [cl (by omega), k2 i hi, k5 i (Nat.le_refl _) hi, one_shl (by omega), nx_or, nI_1]
        refine ih _ (k1.u1 (m1 _)) (fun m hm => ?_) ?_ (fun m hm => ?_) (fun m hm hm2 => ?_) (fun m hm => ?_) (fun m hm hm2 hc => ?_)
        · rw [u1_cell (by decide)]; exact k2 m hm
        · rw [u1_cell (by decide)]; exact k3
        · by_cases e : m = i
          · subst e; rw [u1_same, sn_s, if_pos hf]
          · rw [u1_slot e]; exact k4 m (by omega)
        · rw [u1_slot (by omega)]; exact k5 m (by omega) hm2
        · rw [u1_cell (by decide)]
          by_cases e : m = i
          · subst e; rw [fi_s, if_neg (fun w => z0 w.2)]; exact k7 m (Nat.le_refl _) hi (by omega)
          · exact k6 m (by omega)
        · rw [u1_cell (by decide)]; exact k7 m (by omega) hm2 hc
  exact EX0_keep (L 0 (by omega) σ Chg.rf hp i1 (fun m hm => absurd hm (by omega)) (fun m _ hm => i2 m hm) (fun m hm => absurd hm (by omega)) (fun m _ hm hc => i3 hc m hm))
theorem C_search (hA : EA nA ex σ) (h : ∀ σ' : Sg, Chg [0] σ σ' → FA nA ex 4096 σ' → Q none σ') : EvM (N + 2) mX0_search [.ref 102] σ Q := by
  have L : ∀ r, r ≤ 4096 → ∀ σ' : Sg, Chg [0] σ σ' → FA nA ex r σ' → KX0_search_27 N σ' Q (nI r) := by
    refine for_up ?_ ?_
    · intro σ' k1 k2
      exact BX0_search_27 ⟨fun _ => h σ' k1 k2, fun q => absurd (nI_le (a := 4096) (b := 4096) (by decide) (by decide)) q⟩
    · intro r hr ih σ' k1 k2
      have J : ∀ m, m ≤ 4 → ∀ σ2 : Sg, Chg [0] σ σ2 → FA nA ex r σ2 → (∀ j, j < m → σ2.1 112 j = nI (pik r j)) → KX0_search_36 N σ2 Q (nI r) (nI m) := by
        refine for_up ?_ ?_
        · intro σ2 j1 j2 j3
          have A2 := hA.q (j1.sm (by decide))
          have no : ¬ fR nA ex r = true → FA nA ex (r + 1) σ2 := fun nf => by
            obtain ⟨i1, i2, i3⟩ := j2
            refine ⟨?_, fun m hm => ?_, fun hc m hm => ?_⟩
            · rw [cnt_s, if_neg nf]; exact i1
            · rw [sn_s, if_neg nf]; exact i2 m hm
            · rw [cnt_s, if_neg nf] at hc
              rw [fi_s, if_neg (fun w => nf w.1)]; exact i3 hc m hm
          refine BX0_search_36 ⟨fun _ => C_areUnlike j3 (fun ul => ⟨_, rfl, fun z => absurd z (by decide), fun _ => C_adds A2 j3 (fun ad => ⟨_, rfl, fun z => absurd z (by decide), fun _ => ?_⟩) (fun na => ⟨_, rfl, fun _ => ?_, fun z => absurd rfl z⟩)⟩) (fun nu => ⟨_, rfl, fun _ => ?_, fun z => absurd rfl z⟩), fun q => absurd (nI_le (a := 4) (b := 4) (by decide) (by decide)) q⟩
          · refine C_keep hr j3 j2 (fR_iff.mpr ⟨ul, ad⟩) fun σ3 c3 f3 => ⟨rfl, ?_⟩
            rw [nI_1]; exact ih σ3 (j1.tr c3) f3
          · rw [nI_1]; exact ih σ2 j1 (no (fun z => na (fR_iff.mp z).2))
          · rw [nI_1]; exact ih σ2 j1 (no (fun z => nu (fR_iff.mp z).1))
        · intro m hm ihm σ2 j1 j2 j3
          refine BX0_search_36 ⟨fun q => absurd q (nI_ge (b := 4) hm (by omega)), fun _ => ⟨nvin hm (by omega), ?_⟩⟩
          rw [cl (by omega), pik_i hr hm, nI_1]
          refine ihm _ (j1.u1 (by rw [show ∀ j, modOf 112 j = 0 from fun _ => rfl]; decide)) ?_ (fun j hj => ?_)
          · obtain ⟨i1, i2, i3⟩ := j2
            exact ⟨by rw [u1_cell (by decide)]; exact i1, fun m hm => by rw [u1_cell (by decide)]; exact i2 m hm, fun hc m hm => by rw [u1_cell (by decide)]; exact i3 hc m hm⟩
          · by_cases e : j = m
            · subst e; exact u1_same
            · rw [u1_slot e]; exact j3 j (by omega)
      exact BX0_search_27 ⟨fun q => absurd q (nI_ge (b := 4096) hr (by omega)), fun _ => J 0 (by omega) σ' k1 k2 (fun j hj => absurd hj (by omega))⟩
  have Z : ∀ i, i ≤ 4 → ∀ σ' : Sg, Chg [0] σ σ' → σ'.1 102 5 = 0 → (∀ m, m < i → σ'.1 114 m = 0) → KX0_search_7 N σ' Q (nI i) := by
    refine for_up ?_ ?_
    · intro σ' k1 k2 k3
      refine BX0_search_7 ⟨fun _ => L 0 (by omega) σ' k1 ⟨k2, fun m hm => k3 m hm, fun hc => absurd hc (by unfold cnt; omega)⟩, fun q => absurd (nI_le (a := 4) (b := 4) (by decide) (by decide)) q⟩
    · intro i hi ih σ' k1 k2 k3
      refine BX0_search_7 ⟨fun q => absurd q (nI_ge (b := 4) hi (by omega)), fun _ => ⟨nvin hi (by omega), ?_⟩⟩
      rw [cl (by omega), nI_1]
      refine ih _ (k1.u1 (by rw [show ∀ j, modOf 114 j = 0 from fun _ => rfl]; decide)) (by rw [u1_cell (by decide)]; exact k2) (fun m hm => ?_)
      by_cases e : m = i
      · subst e; exact u1_same
      · rw [u1_slot e]; exact k3 m (by omega)
  exact EX0_search (Z 0 (by omega) _ (Chg.rf.u1 (by decide)) u1_same (fun m hm => absurd hm (by omega)))
end AC
