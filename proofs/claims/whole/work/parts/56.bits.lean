/-! ===== bits of a number below 2^24 ===== -/
theorem ush_1 {n : Nat} (h : n < 2147483648) : ((nI n).toUInt32 >>> ((1 : Int32).toUInt32 &&& Int32.toUInt32 31)).toInt32 = nI (n / 2) := by
  have e1 : ((1 : Int32).toUInt32 &&& Int32.toUInt32 31) = 1 := by decide
  rw [e1, show (nI n).toUInt32 = UInt32.ofNat n from Int32.toUInt32_ofNat']
  have e2 : UInt32.ofNat n >>> 1 = UInt32.ofNat (n / 2) := by
    apply UInt32.toNat_inj.1
    simp [Nat.shiftRight_eq_div_pow]
    omega
  rw [e2]
  rfl
theorem ush_2 {n : Nat} (h : n < 2147483648) : ((nI n).toUInt32 >>> ((2 : Int32).toUInt32 &&& Int32.toUInt32 31)).toInt32 = nI (n / 4) := by
  have e1 : ((2 : Int32).toUInt32 &&& Int32.toUInt32 31) = 2 := by decide
  rw [e1, show (nI n).toUInt32 = UInt32.ofNat n from Int32.toUInt32_ofNat']
  have e2 : UInt32.ofNat n >>> 2 = UInt32.ofNat (n / 4) := by
    apply UInt32.toNat_inj.1
    simp [Nat.shiftRight_eq_div_pow]
    omega
  rw [e2]
  rfl
theorem ush_4 {n : Nat} (h : n < 2147483648) : ((nI n).toUInt32 >>> ((4 : Int32).toUInt32 &&& Int32.toUInt32 31)).toInt32 = nI (n / 16) := by
  have e1 : ((4 : Int32).toUInt32 &&& Int32.toUInt32 31) = 4 := by decide
  rw [e1, show (nI n).toUInt32 = UInt32.ofNat n from Int32.toUInt32_ofNat']
  have e2 : UInt32.ofNat n >>> 4 = UInt32.ofNat (n / 16) := by
    apply UInt32.toNat_inj.1
    simp [Nat.shiftRight_eq_div_pow]
    omega
  rw [e2]
  rfl
theorem ush_8 {n : Nat} (h : n < 2147483648) : ((nI n).toUInt32 >>> ((8 : Int32).toUInt32 &&& Int32.toUInt32 31)).toInt32 = nI (n / 256) := by
  have e1 : ((8 : Int32).toUInt32 &&& Int32.toUInt32 31) = 8 := by decide
  rw [e1, show (nI n).toUInt32 = UInt32.ofNat n from Int32.toUInt32_ofNat']
  have e2 : UInt32.ofNat n >>> 8 = UInt32.ofNat (n / 256) := by
    apply UInt32.toNat_inj.1
    simp [Nat.shiftRight_eq_div_pow]
    omega
  rw [e2]
  rfl
theorem ush_16 {n : Nat} (h : n < 2147483648) : ((nI n).toUInt32 >>> ((16 : Int32).toUInt32 &&& Int32.toUInt32 31)).toInt32 = nI (n / 65536) := by
  have e1 : ((16 : Int32).toUInt32 &&& Int32.toUInt32 31) = 16 := by decide
  rw [e1, show (nI n).toUInt32 = UInt32.ofNat n from Int32.toUInt32_ofNat']
  have e2 : UInt32.ofNat n >>> 16 = UInt32.ofNat (n / 65536) := by
    apply UInt32.toNat_inj.1
    simp [Nat.shiftRight_eq_div_pow]
    omega
  rw [e2]
  rfl
theorem nx_and (a b : Nat) : nI a &&& nI b = nI (a &&& b) := by
  apply Int32.toBitVec_inj.1
  show BitVec.ofNat 32 a &&& BitVec.ofNat 32 b = BitVec.ofNat 32 (a &&& b)
  apply BitVec.eq_of_getLsbD_eq
  intro i hi
  simp [hi]
/-- and, byte by byte -/
theorem and8 (a b m1 m2 : Nat) (ha : a < 256) (hm : m1 < 256) : (256 * b + a) &&& (256 * m2 + m1) = 256 * (b &&& m2) + (a &&& m1) := by
  have hx : a &&& m1 < 256 := Nat.lt_of_le_of_lt Nat.and_le_left ha
  apply Nat.eq_of_testBit_eq
  intro j
  rw [Nat.testBit_and, show 256 * b + a = 2 ^ 8 * b + a from rfl, show 256 * m2 + m1 = 2 ^ 8 * m2 + m1 from rfl, show 256 * (b &&& m2) + (a &&& m1) = 2 ^ 8 * (b &&& m2) + (a &&& m1) from rfl, Nat.testBit_two_pow_mul_add b ha j, Nat.testBit_two_pow_mul_add m2 hm j, Nat.testBit_two_pow_mul_add _ hx j]
  by_cases c : j < 8
  · rw [if_pos c, if_pos c, if_pos c, Nat.testBit_and]
  · rw [if_neg c, if_neg c, if_neg c, Nat.testBit_and]
/-- three bytes -/
theorem and24 (a b c m1 m2 m3 m4 : Nat) (ha : a < 256) (hb : b < 256) (hc : c < 256) (h1 : m1 < 256) (h2 : m2 < 256) (h3 : m3 < 256) : (65536 * c + 256 * b + a) &&& (16777216 * m4 + 65536 * m3 + 256 * m2 + m1) = 65536 * (c &&& m3) + 256 * (b &&& m2) + (a &&& m1) := by
  rw [show 65536 * c + 256 * b + a = 256 * (256 * (256 * 0 + c) + b) + a by omega, show 16777216 * m4 + 65536 * m3 + 256 * m2 + m1 = 256 * (256 * (256 * m4 + m3) + m2) + m1 by omega, and8 _ _ _ _ ha h1, and8 _ _ _ _ hb h2, and8 _ _ _ _ hc h3, Nat.zero_and]
  omega
/-- a byte after the first step, after the second one -/
def q1 (a : Nat) : Nat := a - (a / 2 &&& 85)
def q2 (a : Nat) : Nat := (q1 a &&& 51) + (q1 a / 4 &&& 51)
theorem q_half : ∀ a, a < 256 → ∀ r, r < 2 → (a / 2 + 128 * r) &&& 85 = a / 2 &&& 85 := by decide +kernel
theorem q_quart : ∀ a, a < 256 → ∀ r, r < 4 → (a / 4 + 64 * r) &&& 51 = a / 4 &&& 51 := by decide +kernel
theorem q1_lt : ∀ a, a < 256 → q1 a < 256 ∧ a / 2 &&& 85 ≤ a := by decide +kernel
theorem q2_le : ∀ a, a < 256 → q2 a % 16 ≤ 4 ∧ q2 a ≤ 68 ∧ q2 a < 256 := by decide +kernel
theorem q3 : ∀ a, a < 256 → ∀ r, r < 5 → (q2 a + q2 a / 16 + 16 * r) &&& 15 = pc 8 a ∧ q2 a + q2 a / 16 + 16 * r < 256 := by decide +kernel
theorem pc_lek (n : Nat) : ∀ k, pc k n ≤ k
  | 0 => Nat.le_refl 0
  | k + 1 => by
    have := pc_lek n k
    have := Nat.mod_lt (n / 2 ^ k) (show 0 < 2 by decide)
    unfold pc
    omega
theorem bcx_b3 (a b c : Nat) (ha : a < 256) (hb : b < 256) (hc : c < 256) : bcx (nI (65536 * c + 256 * b + a)) = nI (pc 8 a + pc 8 b + pc 8 c) := by
  have hs1 : nI (65536 * c + 256 * b + a) - (((nI (65536 * c + 256 * b + a)).toUInt32 >>> ((1 : Int32).toUInt32 &&& Int32.toUInt32 31)).toInt32 &&& 1431655765) = nI (65536 * q1 c + 256 * q1 b + q1 a) := by
    have e1 := q1_lt a ha
    have e2 := q1_lt b hb
    have e3 := q1_lt c hc
    rw [ush_1 (by omega), show (1431655765 : Int32) = nI 1431655765 from rfl, nx_and]
    rw [show (65536 * c + 256 * b + a) / 2 = 65536 * (c / 2 + 128 * 0) + 256 * (b / 2 + 128 * (c % 2)) + (a / 2 + 128 * (b % 2)) by omega]
    rw [show 1431655765 = 16777216 * 85 + 65536 * 85 + 256 * 85 + 85 from rfl, and24 _ _ _ _ _ _ _ (by omega) (by omega) (by omega) (by decide) (by decide) (by decide)]
    rw [q_half a ha _ (by omega), q_half b hb _ (by omega), q_half c hc 0 (by decide), pk_sub (by omega)]
    unfold q1
    congr 1
    omega
  have hs2 : (nI (65536 * q1 c + 256 * q1 b + q1 a) &&& 858993459) + (((nI (65536 * q1 c + 256 * q1 b + q1 a)).toUInt32 >>> ((2 : Int32).toUInt32 &&& Int32.toUInt32 31)).toInt32 &&& 858993459) = nI (65536 * q2 c + 256 * q2 b + q2 a) := by
    have e1 := (q1_lt a ha).1
    have e2 := (q1_lt b hb).1
    have e3 := (q1_lt c hc).1
    unfold q2
    generalize q1 a = x at e1
    generalize q1 b = y at e2
    generalize q1 c = z at e3
    rw [ush_2 (by omega), show (858993459 : Int32) = nI 858993459 from rfl, nx_and, nx_and, nI_add]
    rw [show (65536 * z + 256 * y + x) / 4 = 65536 * (z / 4 + 64 * 0) + 256 * (y / 4 + 64 * (z % 4)) + (x / 4 + 64 * (y % 4)) by omega]
    rw [show 858993459 = 16777216 * 51 + 65536 * 51 + 256 * 51 + 51 from rfl, and24 _ _ _ _ _ _ _ (by omega) (by omega) (by omega) (by decide) (by decide) (by decide), and24 _ _ _ _ _ _ _ (by omega) (by omega) (by omega) (by decide) (by decide) (by decide)]
    rw [q_quart x e1 _ (by omega), q_quart y e2 _ (by omega), q_quart z e3 0 (by decide)]
    congr 1
    omega
  have hs3 : (nI (65536 * q2 c + 256 * q2 b + q2 a) + ((nI (65536 * q2 c + 256 * q2 b + q2 a)).toUInt32 >>> ((4 : Int32).toUInt32 &&& Int32.toUInt32 31)).toInt32) &&& 252645135 = nI (65536 * pc 8 c + 256 * pc 8 b + pc 8 a) := by
    have e1 := q2_le a ha
    have e2 := q2_le b hb
    have e3 := q2_le c hc
    have f1 := q3 a ha (q2 b % 16) (by omega)
    have f2 := q3 b hb (q2 c % 16) (by omega)
    have f3 := q3 c hc 0 (by decide)
    rw [ush_4 (by omega), show (252645135 : Int32) = nI 252645135 from rfl, nI_add, nx_and]
    rw [show 65536 * q2 c + 256 * q2 b + q2 a + (65536 * q2 c + 256 * q2 b + q2 a) / 16 = 65536 * (q2 c + q2 c / 16 + 16 * 0) + 256 * (q2 b + q2 b / 16 + 16 * (q2 c % 16)) + (q2 a + q2 a / 16 + 16 * (q2 b % 16)) by omega]
    rw [show 252645135 = 16777216 * 15 + 65536 * 15 + 256 * 15 + 15 from rfl, and24 _ _ _ _ _ _ _ f1.2 f2.2 f3.2 (by decide) (by decide) (by decide), f1.1, f2.1, f3.1]
  have a8 := pc_lek a 8
  have b8 := pc_lek b 8
  have c8 := pc_lek c 8
  have hs4 : nI (65536 * pc 8 c + 256 * pc 8 b + pc 8 a) + ((nI (65536 * pc 8 c + 256 * pc 8 b + pc 8 a)).toUInt32 >>> ((8 : Int32).toUInt32 &&& Int32.toUInt32 31)).toInt32 = nI (65536 * pc 8 c + 256 * (pc 8 b + pc 8 c) + (pc 8 a + pc 8 b)) := by
    rw [ush_8 (by omega), nI_add]
    congr 1
    omega
  have hs5 : (nI (65536 * pc 8 c + 256 * (pc 8 b + pc 8 c) + (pc 8 a + pc 8 b)) + ((nI (65536 * pc 8 c + 256 * (pc 8 b + pc 8 c) + (pc 8 a + pc 8 b))).toUInt32 >>> ((16 : Int32).toUInt32 &&& Int32.toUInt32 31)).toInt32) &&& 63 = nI (pc 8 a + pc 8 b + pc 8 c) := by
    rw [ush_16 (by omega), nI_add, pk_andN (by omega) 6 (by decide)]
    congr 1
    rw [show (65536 * pc 8 c + 256 * (pc 8 b + pc 8 c) + (pc 8 a + pc 8 b)) / 65536 = pc 8 c by omega, show 65536 * pc 8 c + 256 * (pc 8 b + pc 8 c) + (pc 8 a + pc 8 b) + pc 8 c = 64 * (1024 * pc 8 c + 4 * (pc 8 b + pc 8 c)) + (pc 8 a + pc 8 b + pc 8 c) by omega]
    omega
  unfold bcx
  rw [hs1, hs2, hs3, hs4, hs5]
theorem pc_mul (m s : Nat) : ∀ k, pc (s + k) m = pc s m + pc k (m / 2 ^ s)
  | 0 => rfl
  | k + 1 => by
    show pc (s + k) m + m / 2 ^ (s + k) % 2 = pc s m + (pc k (m / 2 ^ s) + m / 2 ^ s / 2 ^ k % 2)
    rw [pc_mul m s k, Nat.div_div_eq_div_mul, ← Nat.pow_add]
    omega
theorem pc_low (s : Nat) (m b : Nat) : ∀ k, k ≤ s → pc k (2 ^ s * b + m) = pc k m
  | 0, _ => rfl
  | k + 1, h => by
    show pc k (2 ^ s * b + m) + (2 ^ s * b + m) / 2 ^ k % 2 = pc k m + m / 2 ^ k % 2
    rw [pc_low s m b k (by omega)]
    have e : 2 ^ s * b + m = 2 ^ k * (2 * (2 ^ (s - k - 1) * b)) + m := by
      rw [← Nat.mul_assoc 2, ← Nat.pow_succ', ← Nat.mul_assoc, ← Nat.pow_add, show k + (s - k - 1).succ = s by omega]
    rw [e, Nat.mul_add_div (Nat.two_pow_pos k)]
    omega
theorem bcx_24 (n : Nat) (hn : n < 16777216) : bcx (nI n) = nI (pc 24 n) := by
  have e := bcx_b3 (n % 256) (n / 256 % 256) (n / 65536) (by omega) (by omega) (by omega)
  rw [show 65536 * (n / 65536) + 256 * (n / 256 % 256) + n % 256 = n by omega] at e
  rw [e]
  congr 1
  have p1 := pc_mul n 8 16
  have p2 := pc_mul (n / 2 ^ 8) 8 8
  have p3 := pc_low 8 (n % 256) (n / 256) 8 (Nat.le_refl 8)
  have p4 := pc_low 8 (n / 256 % 256) (n / 65536) 8 (Nat.le_refl 8)
  rw [show 2 ^ 8 * (n / 256) + n % 256 = n by omega] at p3
  rw [show 2 ^ 8 * (n / 65536) + n / 256 % 256 = n / 2 ^ 8 by omega] at p4
  rw [show n / 2 ^ 8 / 2 ^ 8 = n / 65536 by omega] at p2
  rw [show (8 : Nat) + 16 = 24 from rfl] at p1
  rw [show (8 : Nat) + 8 = 16 from rfl] at p2
  omega
theorem C_bitC {N : Nat} {σ : Sg} {Q : Option Value → Sg → Prop} {n : Nat} (hn : n < 16777216) (h : Q (some (.int (nI (pc 24 n)))) σ) : EvM N mJ6_bitCount_0f7a4 [.int (nI n)] σ Q := by
  refine EJ6_bitCount_0f7a4 ?_
  have e := bcx_24 n hn
  unfold bcx at e
  rw [e]
  exact h
