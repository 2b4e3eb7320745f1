/-! ===== feed ===== -/
/-- byte i of eight, the highest first -/
def fby (y : Int64) (i : Nat) : Nat := (y >>> ((nI (56 - 8 * i)).toInt64 &&& 63)).toBitVec.toNat % 256
theorem fby_m (z : Int64) : (z &&& 255).toInt32 = nI (z.toBitVec.toNat % 256) := by
  apply Int32.toBitVec_inj.mp
  rw [Int64.toBitVec_toInt32, BitVec.signExtend_eq_setWidth_of_le _ (by decide)]
  apply BitVec.eq_of_toNat_eq
  rw [BitVec.toNat_setWidth, Int64.toBitVec_and, BitVec.toNat_and]
  rw [show (255 : Int64).toBitVec.toNat = 2 ^ 8 - 1 from by decide, Nat.and_two_pow_sub_one_eq_mod]
  show _ = (BitVec.ofNat 32 _).toNat
  rw [BitVec.toNat_ofNat]
theorem fby_c (z : Int64) : z.toInt32.toInt8 = (nI (z.toBitVec.toNat % 256)).toInt8 := by
  apply Int8.toBitVec_inj.mp
  rw [Int32.toBitVec_toInt8, Int32.toBitVec_toInt8, Int64.toBitVec_toInt32]
  rw [BitVec.signExtend_eq_setWidth_of_le _ (by decide), BitVec.signExtend_eq_setWidth_of_le _ (by decide), BitVec.signExtend_eq_setWidth_of_le _ (by decide)]
  apply BitVec.eq_of_toNat_eq
  rw [BitVec.toNat_setWidth, BitVec.toNat_setWidth, BitVec.toNat_setWidth]
  show _ = (BitVec.ofNat 32 _).toNat % 2 ^ 8
  rw [BitVec.toNat_ofNat]
  omega
theorem C_append {N : Nat} {σ : Sg} {Q : Option Value → Sg → Prop} {y : Int64} {len : Nat} (hl : σ.1 228 1 = nI len) (hn : len ≤ 152) (h : ∀ σ' : Sg, Chg [7] σ σ' → (∀ a, a ≠ 228 → a ≠ 229 → ∀ j, σ'.1 a j = σ.1 a j) → σ'.1 228 1 = nI (len + 8) → (∀ i, i < len → σ'.1 229 i = σ.1 229 i) → (∀ i, i < 8 → σ'.1 229 (len + i) = (nI (fby y i)).toInt8.toInt32) → Q (some (.int (nI (len + 8)))) σ') : EvM N mX6_append [.ref 228, .long y] σ Q := by
  have L : ∀ i, i ≤ 8 → ∀ σ' : Sg, Rw 229 σ σ' → (∀ j, j < len → σ'.1 229 j = σ.1 229 j) → (∀ j, j < i → σ'.1 229 (len + j) = (nI (fby y j)).toInt8.toInt32) → KX6_append_15 N σ' Q y (nI i) := by
    refine for_up ?_ ?_
    · intro σ' h1 h2 h3
      refine BX6_append_15 ⟨fun _ => ?_, fun q => absurd (show (8 : Int32) ≤ nI 8 by decide) q⟩
      have e : σ'.1 228 1 = nI len := by rw [h1.1 228 (by decide)]; exact hl
      rw [u1_same, e, show nI len + 8 = nI (len + 8) from nI_add len 8]
      refine h _ ((h1.chg (fun j => by rw [show modOf 229 j = 7 from rfl]; decide) Chg.rf).u1 (by decide)) (fun a ha hb j => by rw [u1_cell ha]; exact h1.1 a hb j) u1_same (fun i hi => ?_) (fun i hi => ?_)
      · rw [u1_cell (by decide)]; exact h2 i hi
      · rw [u1_cell (by decide)]; exact h3 i hi
    · intro i hi ih σ' h1 h2 h3
      have e : σ'.1 228 1 = nI len := by rw [h1.1 228 (by decide)]; exact hl
      refine BX6_append_15 ⟨fun q => ?_, fun _ => ?_⟩
      · exfalso; clear ih h1 h2 h3 e hl h; ((try simp (disch := (first | omega | ((try simp (disch := omega) only [i_nI, Int32.reduceToInt, i_l]) <;> omega))) only [i_le, i_lt, i_eq, Int32.reduceToInt, i_nI, i_l, li0, vp_in_iff, i_sub, i_add] at *) <;> omega)
      · rw [e, show nI len + nI i = nI (len + i) from nI_add len i, cl (by omega), show nI i + 1 = nI (i + 1) from nI_add i 1, pk_vb, fby_c]
        refine ⟨vp_in_nI (by omega) (by omega), ih _ h1.u1 (fun j hj => ?_) (fun j hj => ?_)⟩
        · rw [u1_slot (by omega)]; exact h2 j hj
        · by_cases ej : j = i
          · subst ej
            rw [u1_same]
            show _ = (nI (_ % 256)).toInt8.toInt32
            rw [show (8 : Int32) * (7 - nI j) = nI (56 - 8 * j) from by
              rw [show (7 : Int32) = nI 7 from rfl, pk_sub (by omega), show (8 : Int32) = nI 8 from rfl, pk_mul]; congr 1; omega]
          · rw [u1_slot (by omega)]; exact h3 j (by omega)
  refine EX6_append ⟨fun _ => L 0 (by omega) σ Rw.rf (fun _ _ => rfl) (fun j hj => absurd hj (by omega)), fun q => ?_⟩
  exfalso; rw [hl] at q; clear L h; ((try simp (disch := (first | omega | ((try simp (disch := omega) only [i_nI, Int32.reduceToInt, i_l]) <;> omega))) only [i_le, i_lt, i_eq, Int32.reduceToInt, i_nI, i_l, li0, vp_in_iff, i_sub, i_add] at *) <;> omega)
theorem M_feed {N : Nat} {σ : Sg} {Q : Option Value → Sg → Prop} {y : Int64} {len : Nat} (hl : σ.1 245 45 = nI len) (hn : len ≤ 152) (h : ∀ σ' : Sg, Chg [7] σ σ' → σ'.1 245 45 = nI (len + 8) → (∀ i, i < len → σ'.1 276 i = σ.1 276 i) → (∀ i, i < 8 → σ'.1 276 (len + i) = nI (fby y i)) → (∀ j, σ'.1 229 j = σ.1 229 j) → σ'.1 228 1 = σ.1 228 1 → Q (some (.int (nI (len + 8)))) σ') : EvM N mX10_feed [.ref 245, .long y] σ Q := by
  have L : ∀ i, i ≤ 8 → ∀ σ' : Sg, Chg [7] σ σ' → σ'.1 245 45 = nI (len + i) → (∀ j, j < len → σ'.1 276 j = σ.1 276 j) → (∀ j, j < i → σ'.1 276 (len + j) = nI (fby y j)) → (∀ j, σ'.1 229 j = σ.1 229 j) → σ'.1 228 1 = σ.1 228 1 → KX10_feed_19 N σ' Q y (nI (64 - 8 * i) + (-8)) := by
    refine for_up ?_ ?_
    · intro σ' h1 h2 h3 h4 h5 h6
      refine BX10_feed_19 ⟨fun _ => ?_, fun q => absurd (show nI (64 - 8 * 8) + (-8) < 0 by decide) q⟩
      rw [h2]
      exact h σ' h1 h2 h3 h4 h5 h6
    · intro i hi ih σ' h1 h2 h3 h4 h5 h6
      have e8 : nI (64 - 8 * i) + (-8) = nI (56 - 8 * i) := by
        rw [show (-8 : Int32) = - nI 8 from rfl, ← Int32.sub_eq_add_neg, pk_sub (by omega)]; congr 1; omega
      rw [e8]
      refine BX10_feed_19 ⟨fun q => ?_, fun _ => ?_⟩
      · exfalso; clear ih h1 h2 h3 h4 h5 h6 hl h; ((try simp (disch := (first | omega | ((try simp (disch := omega) only [i_nI, Int32.reduceToInt, i_l]) <;> omega))) only [i_le, i_lt, i_eq, Int32.reduceToInt, i_nI, i_l, li0, vp_in_iff, i_sub, i_add] at *) <;> omega)
      · rw [h2, cl (by omega), fby_m]
        refine ⟨vp_in_nI (by omega) (by omega), ?_⟩
        rw [u1_cell (by decide), h2, show nI (len + i) + 1 = nI (len + (i + 1)) from nI_add (len + i) 1, show nI (56 - 8 * i) + (-8) = nI (64 - 8 * (i + 1)) + (-8) from by rw [show 64 - 8 * (i + 1) = 56 - 8 * i by omega]]
        refine ih _ ((h1.u1 (by rw [show ∀ j, modOf 276 j = 7 from fun _ => rfl]; decide)).u1 (by decide)) u1_same (fun j hj => ?_) (fun j hj => ?_) (fun j => ?_) ?_
        · rw [u1_cell (by decide), u1_slot (by omega)]; exact h3 j hj
        · rw [u1_cell (by decide)]
          by_cases ej : j = i
          · subst ej; rw [u1_same]; rfl
          · rw [u1_slot (by omega)]; exact h4 j (by omega)
        · rw [u1_cell (by decide), u1_cell (by decide)]; exact h5 j
        · rw [u1_cell (by decide), u1_cell (by decide)]; exact h6
  refine EX10_feed ⟨fun _ => ?_, fun q => ?_⟩
  · have := L 0 (by omega) σ Chg.rf hl (fun _ _ => rfl) (fun j hj => absurd hj (by omega)) (fun _ => rfl) rfl
    exact this
  · exfalso; rw [hl] at q; clear L h; ((try simp (disch := (first | omega | ((try simp (disch := omega) only [i_nI, Int32.reduceToInt, i_l]) <;> omega))) only [i_le, i_lt, i_eq, Int32.reduceToInt, i_nI, i_l, li0, vp_in_iff, i_sub, i_add] at *) <;> omega)
theorem O_feed {σ : Sg} (hR : Rel σ) (y : Int64) : OPi mX9_feed mX10_feed [.long y] σ := by
  obtain ⟨len, by', h1, h2, h3, h4⟩ := id hR.2.2.2.2.2.1
  by_cases hv : len ≤ 152
  · refine EX9_feed (C_append h2 hv fun σ' g1 gx g2 g3 g4 => ?_)
    refine ⟨_, rfl, _, rfl, M_feed (len := len) ?_ hv fun σ'' k1 k2 k3 k4 k5 k6 => ?_⟩
    · rw [gx 245 (by decide) (by decide)]; exact h3
    · refine ⟨rfl, hR.m7 ((g1.tr k1).le (by decide)) ⟨len + 8, fun i => if i < len then by' i else fby y (i - len), by omega, ?_, k2, fun i hi => ?_⟩⟩
      · rw [k6]; exact g2
      · by_cases hil : i < len
        · simp only [if_pos hil]
          obtain ⟨a1, a2, a3⟩ := h4 i hil
          refine ⟨a1, ?_, ?_⟩
          · rw [k3 i hil, gx 276 (by decide) (by decide)]; exact a2
          · rw [k5, g3 i hil]; exact a3
        · simp only [if_neg hil]
          obtain ⟨j, hj, rfl⟩ : ∃ j, j < 8 ∧ i = len + j := ⟨i - len, by omega, by omega⟩
          rw [show len + j - len = j by omega]
          refine ⟨Nat.mod_lt _ (by decide), k4 j hj, ?_⟩
          rw [k5]; exact g4 j hj
  · have e : EvM 40 mX10_feed [.ref 245, .long y] σ (fun r2 σ2 => r2 = some (.int (-3)) ∧ Rel σ2) := EX10_feed ⟨fun q => by exfalso; rw [h3] at q; clear h2 h3 h4; ((try simp (disch := (first | omega | ((try simp (disch := omega) only [i_nI, Int32.reduceToInt, i_l]) <;> omega))) only [i_le, i_lt, i_eq, Int32.reduceToInt, i_nI, i_l, li0, vp_in_iff, i_sub, i_add] at *) <;> omega), fun _ => ⟨rfl, hR⟩⟩
    refine EX9_feed (EX6_append ⟨fun q => ?_, fun _ => ⟨_, rfl, _, rfl, e⟩⟩)
    exfalso; rw [h2] at q; clear h2 h3 h4 e; ((try simp (disch := (first | omega | ((try simp (disch := omega) only [i_nI, Int32.reduceToInt, i_l]) <;> omega))) only [i_le, i_lt, i_eq, Int32.reduceToInt, i_nI, i_l, li0, vp_in_iff, i_sub, i_add] at *) <;> omega)
