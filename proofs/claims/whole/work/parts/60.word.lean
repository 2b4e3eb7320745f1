/-! ===== bits of the words' keys ===== -/
theorem sh63 : ∀ j : Nat, j < 64 → ((nI j).toInt64 &&& 63).toBitVec.smod 64 = BitVec.ofNat 64 j := by decide +kernel
theorem one_shl64 : ∀ j : Nat, j < 64 → ((1 : Int64) <<< ((nI j).toInt64 &&& 63)).toBitVec = BitVec.twoPow 64 j := by decide +kernel
theorem l_bit {w : Int64} {j : Nat} (hj : j < 64) : (lg_cmp ((w >>> ((nI j).toInt64 &&& 63)) &&& 1) 1 = 0) ↔ w.toBitVec.getLsbD j = true := by
  rw [lg_eq0, ← Int64.toBitVec_inj, Int64.toBitVec_and, Int64.toBitVec_shiftRight, sh63 j hj]
  show w.toBitVec.sshiftRight (BitVec.ofNat 64 j).toNat &&& 1#64 = 1#64 ↔ _
  rw [BitVec.toNat_ofNat, Nat.mod_eq_of_lt (by omega)]
  have k0 : (w.toBitVec.sshiftRight j).getLsbD 0 = w.toBitVec.getLsbD j := by
    rw [BitVec.getLsbD_sshiftRight]
    simp [hj]
  constructor
  · intro h
    have t := congrArg (fun x => x.getLsbD 0) h
    simp only [BitVec.getLsbD_and, k0] at t
    simpa using t
  · intro h
    apply BitVec.eq_of_getLsbD_eq
    intro i hi
    cases i with
    | zero => rw [BitVec.getLsbD_and, k0, h]; rfl
    | succ i => simp
theorem l_set {w : Int64} {j i : Nat} (hj : j < 64) : (w ||| ((1 : Int64) <<< ((nI j).toInt64 &&& 63))).toBitVec.getLsbD i = (w.toBitVec.getLsbD i || decide (j = i)) := by
  rw [Int64.toBitVec_or, one_shl64 j hj, BitVec.getLsbD_or, BitVec.getLsbD_twoPow]
  simp [hj]
/-- keys of different rows differ -/
theorem key_ne {n m s t : Nat} (hs : s < 4 ^ n) (ht : t < 4 ^ m) (h : 4 ^ n + s = 4 ^ m + t) : n = m ∧ s = t := by
  have a : ∀ a b x y : Nat, a < b → x < 4 ^ a → 4 ^ a + x < 4 ^ b + y := by
    intro a b x y hab hx
    have h1 : 4 ^ (a + 1) ≤ 4 ^ b := Nat.pow_le_pow_right (by decide) hab
    rw [Nat.pow_succ] at h1
    omega
  rcases Nat.lt_trichotomy n m with c | c | c
  · have := a n m s t c hs; omega
  · subst c; exact ⟨rfl, by omega⟩
  · have := a m n t s c ht; omega
theorem key_or {n s : Nat} (hs : s < 4 ^ n) : 4 ^ n ||| s = 4 ^ n + s := by
  have e : (4 : Nat) ^ n = 2 ^ (2 * n) * 1 := by rw [Nat.mul_one, Nat.pow_mul]
  rw [e] at hs ⊢
  rw [← Nat.two_pow_add_eq_or_of_lt (by omega) 1]
section WD
variable {N nW : Nat} {wn ws : Nat → Nat} {σ : Sg} {Q : Option Value → Sg → Prop}
theorem C_isWord (hW : RW nW wn ws σ) {key : Nat} (hk : key < 8192) (h1 : (∃ w, w < nW ∧ key = 4 ^ wn w + ws w) → Q (some (.int 1)) σ) (h0 : ¬ (∃ w, w < nW ∧ key = 4 ^ wn w + ws w) → Q (some (.int 0)) σ) : EvM N mX8_isWord [.ref 122, .int (nI key)] σ Q := by
  obtain ⟨g1, g2, g3, g4, g5⟩ := hW
  refine EX8_isWord ⟨fun q => ?_, fun _ => ⟨fun q => ?_, fun _ => ?_⟩⟩
  · exact absurd ((nI_ltI (b := 0) (by omega) (by omega)).mp q) (by omega)
  · exact absurd ((nI_leI (a := 8192) (by omega) (by omega)).mp q) (by omega)
  · rw [pk_shrN (by omega) (6 &&& 31) 6 (by decide), pk_andN (by omega) 6 (by decide), cl (by omega), l_bit (by omega)]
    exact ⟨nvin (by omega) (by omega), fun z => h1 ((g5 key hk).mp z), fun z => h0 (fun e => z ((g5 key hk).mpr e))⟩
end WD
