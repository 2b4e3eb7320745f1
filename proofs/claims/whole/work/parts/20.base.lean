/-! ===== numbers, loops, what changes ===== -/
theorem for_up {P : Nat → Prop} {e : Nat} (hx : P e) (hs : ∀ i, i < e → P (i + 1) → P i) : ∀ i, i ≤ e → P i := by
  intro i hi
  obtain ⟨k, hk⟩ : ∃ k, i + k = e := ⟨e - i, by omega⟩
  induction k generalizing i with
  | zero => rw [show i = e by omega]; exact hx
  | succ k ih => exact hs i (by omega) (ih (i + 1) (by omega) (by omega))
theorem for_dn {P : Nat → Prop} (hx : P 0) (hs : ∀ i, P i → P (i + 1)) : ∀ i, P i := by
  intro i
  induction i with
  | zero => exact hx
  | succ i ih => exact hs i ih
theorem i_le {x y : Int32} : x ≤ y ↔ x.toInt ≤ y.toInt := Int32.le_iff_toInt_le
theorem i_lt {x y : Int32} : x < y ↔ x.toInt < y.toInt := Int32.lt_iff_toInt_lt
theorem i_eq {x y : Int32} : x = y ↔ x.toInt = y.toInt := Int32.toInt_inj.symm
theorem l_le {x y : Int64} : x ≤ y ↔ x.toInt ≤ y.toInt := Int64.le_iff_toInt_le
theorem l_lt {x y : Int64} : x < y ↔ x.toInt < y.toInt := Int64.lt_iff_toInt_lt
theorem l_eq {x y : Int64} : x = y ↔ x.toInt = y.toInt := Int64.toInt_inj.symm
theorem i_cl (x : Int32) : x.toNatClampNeg = x.toInt.toNat := rfl
theorem i_rng (x : Int32) : -2147483648 ≤ x.toInt ∧ x.toInt ≤ 2147483647 := by
  have h1 := Int32.minValue_le_toInt x
  have h2 := Int32.toInt_le x
  rw [show Int32.minValue.toInt = -2147483648 from by decide] at *
  exact ⟨h1, h2⟩
theorem i_add {x y : Int32} (h : -2147483648 ≤ x.toInt + y.toInt ∧ x.toInt + y.toInt ≤ 2147483647) : (x + y).toInt = x.toInt + y.toInt := by
  rw [Int32.toInt_add, Int.bmod_eq_of_le (by omega) (by omega)]
theorem i_sub {x y : Int32} (h : -2147483648 ≤ x.toInt - y.toInt ∧ x.toInt - y.toInt ≤ 2147483647) : (x - y).toInt = x.toInt - y.toInt := by
  rw [Int32.toInt_sub, Int.bmod_eq_of_le (by omega) (by omega)]
theorem i_mul {x y : Int32} (h : -2147483648 ≤ x.toInt * y.toInt ∧ x.toInt * y.toInt ≤ 2147483647) : (x * y).toInt = x.toInt * y.toInt := by
  rw [Int32.toInt_mul, Int.bmod_eq_of_le (by omega) (by omega)]
theorem i_l (x : Int32) : x.toInt64.toInt = x.toInt := Int32.toInt_toInt64 x
theorem i_nI {n : Nat} (h : n < 2147483648) : (nI n).toInt = (n : Int) := nI_toInt (by omega)
theorem i_of {x : Int32} {n : Nat} (h : x.toInt = n) (hn : n < 2147483648) : x = nI n := Int32.toInt_inj.mp (by rw [h, i_nI hn])
theorem lg_lt {x y : Int64} : lg_cmp x y < 0 ↔ x.toInt < y.toInt := by
  unfold lg_cmp
  by_cases h : x > y
  · rw [if_pos h]
    have := l_lt.mp h
    constructor
    · intro q; exact absurd q (by decide)
    · intro q; omega
  · rw [if_neg h]
    by_cases h2 : x = y
    · rw [if_pos h2]; subst h2
      constructor
      · intro q; exact absurd q (by decide)
      · intro q; omega
    · rw [if_neg h2]
      have h3 : ¬ y.toInt < x.toInt := fun q => h (l_lt.mpr q)
      have h4 : ¬ x.toInt = y.toInt := fun q => h2 (l_eq.mpr q)
      constructor
      · intro _; omega
      · intro _; decide
theorem lg_gt {x y : Int64} : 0 < lg_cmp x y ↔ y.toInt < x.toInt := by
  unfold lg_cmp
  by_cases h : x > y
  · rw [if_pos h]
    have := l_lt.mp h
    constructor
    · intro _; exact this
    · intro _; decide
  · rw [if_neg h]
    have h3 : ¬ y.toInt < x.toInt := fun q => h (l_lt.mpr q)
    by_cases h2 : x = y
    · rw [if_pos h2]
      constructor
      · intro q; exact absurd q (by decide)
      · intro q; exact absurd q h3
    · rw [if_neg h2]
      constructor
      · intro q; exact absurd q (by decide)
      · intro q; exact absurd q h3
/-- which module a slot belongs to: 0 passing, 1 forms, 2 texts, 3 told, 4 accounts, 5 names, 6 words of the tongue, 7 tape, 8 claims, 9 sheets -/
def modL : List Nat := [0, 1, 1, 1, 0, 2, 0, 2, 2, 2, 2, 2, 2, 2, 2, 2, 2, 2, 2, 2, 2, 0, 0, 0, 3, 3, 3, 3, 3, 3, 3, 3, 3, 3, 3, 3, 3, 3, 3, 3, 3, 3, 3, 3, 3, 3, 3, 3, 0, 0, 0, 0, 0, 0, 0, 0, 0, 0, 0, 0, 0, 0, 0, 0, 0, 0, 0, 0, 0, 0, 0, 0, 0, 0, 0, 0, 0, 0, 0, 0, 0, 0, 0, 0, 0, 0, 0, 0, 0, 0, 0, 0, 0, 0, 0, 0, 0, 0, 0, 0, 0, 0, 0, 0, 4, 4, 4, 4, 4, 4, 4, 4, 0, 0, 0, 5, 0, 5, 5, 5, 5, 5, 0, 6, 0, 0, 0, 0, 0, 0, 0, 0, 0, 0, 0, 0, 0, 0, 0, 0, 0, 0, 0, 0, 0, 0, 0, 0, 0, 0, 0, 0, 0, 0, 0, 0, 0, 0, 0, 0, 0, 0, 0, 0, 0, 0, 0, 0, 0, 0, 0, 0, 0, 0, 0, 0, 0, 0, 0, 0, 0, 0, 0, 0, 0, 0, 0, 0, 0, 0, 0, 0, 0, 0, 0, 0, 0, 0, 0, 0, 0, 0, 0, 0, 0, 0, 0, 0, 0, 0, 0, 0, 0, 0, 0, 0, 0, 0, 0, 0, 0, 0, 0, 0, 0, 0, 0, 0, 0, 7, 0, 8, 8, 8, 8, 8, 8, 0, 9, 9, 0, 9, 9, 9, 9, 0, 1, 0, 2, 2, 0, 0, 0, 0, 0, 3, 0, 0, 0, 0, 0, 4, 4, 0, 0, 0, 5, 5, 6, 6, 0, 0, 0, 0, 0, 0, 7, 8, 8, 8, 8, 8, 0, 9, 9, 9]
def modS (a j : Nat) : Nat := match a with
  | 102 => if j = 1 then 4 else 0
  | 122 => if j = 2 then 6 else 0
  | 228 => if j = 1 then 7 else 0
  | 230 => if j = 8 ∨ j = 9 then 0 else 8
  | 245 => if j = 0 ∨ j = 2 then 1 else if j = 4 then 2 else if j = 20 then 4 else if j = 27 then 5 else if j = 30 then 6 else if j = 45 then 7 else if j = 50 ∨ j = 52 ∨ j = 58 then 8 else 0
  | _ => 0
def modOf (a j : Nat) : Nat := if a = 102 ∨ a = 122 ∨ a = 228 ∨ a = 230 ∨ a = 245 then modS a j else modL.getD a 0
/-- only slots of the modules in S have changed -/
def Chg (S : List Nat) (σ σ' : Sg) : Prop := (∀ a j, modOf a j ∉ S → σ'.1 a j = σ.1 a j) ∧ ∀ a j, modOf a j ∉ S → σ'.2 a j = σ.2 a j
theorem Chg.rf {S : List Nat} {σ : Sg} : Chg S σ σ := ⟨fun _ _ _ => rfl, fun _ _ _ => rfl⟩
theorem Chg.tr {S : List Nat} {σ σ' σ'' : Sg} (h : Chg S σ σ') (h2 : Chg S σ' σ'') : Chg S σ σ'' := ⟨fun a j hm => (h2.1 a j hm).trans (h.1 a j hm), fun a j hm => (h2.2 a j hm).trans (h.2 a j hm)⟩
theorem Chg.u1 {S : List Nat} {σ σ' : Sg} {k j : Nat} {x : Int32} (h : Chg S σ σ') (hm : modOf k j ∈ S) : Chg S σ (u1 σ' k j x) := by
  refine ⟨fun a b hab => ?_, fun a b hab => h.2 a b hab⟩
  show (if a = k ∧ b = j then x else σ'.1 a b) = _
  rw [if_neg, h.1 a b hab]
  rintro ⟨rfl, rfl⟩
  exact hab hm
theorem Chg.u2 {S : List Nat} {σ σ' : Sg} {k j : Nat} {x : Int64} (h : Chg S σ σ') (hm : modOf k j ∈ S) : Chg S σ (u2 σ' k j x) := by
  refine ⟨fun a b hab => h.1 a b hab, fun a b hab => ?_⟩
  show (if a = k ∧ b = j then x else σ'.2 a b) = _
  rw [if_neg, h.2 a b hab]
  rintro ⟨rfl, rfl⟩
  exact hab hm
theorem Chg.le {S S' : List Nat} {σ σ' : Sg} (h : Chg S σ σ') (hs : ∀ m ∈ S, m ∈ S') : Chg S' σ σ' := ⟨fun a j hm => h.1 a j (fun q => hm (hs _ q)), fun a j hm => h.2 a j (fun q => hm (hs _ q))⟩
/-- one module has stayed -/
def Sm (m : Nat) (σ σ' : Sg) : Prop := (∀ a j, modOf a j = m → σ'.1 a j = σ.1 a j) ∧ ∀ a j, modOf a j = m → σ'.2 a j = σ.2 a j
theorem Chg.sm {S : List Nat} {σ σ' : Sg} {m : Nat} (h : Chg S σ σ') (hm : m ∉ S) : Sm m σ σ' := ⟨fun a j e => h.1 a j (by rw [e]; exact hm), fun a j e => h.2 a j (by rw [e]; exact hm)⟩
theorem u1_same {σ : Sg} {k j : Nat} {x : Int32} : (u1 σ k j x).1 k j = x := by simp [u1]
theorem u1_other {σ : Sg} {k j a b : Nat} {x : Int32} (h : ¬ (a = k ∧ b = j)) : (u1 σ k j x).1 a b = σ.1 a b := if_neg h
theorem u1_cell {σ : Sg} {k j a b : Nat} {x : Int32} (h : a ≠ k) : (u1 σ k j x).1 a b = σ.1 a b := if_neg (fun q => h q.1)
theorem u1_slot {σ : Sg} {k j b : Nat} {x : Int32} (h : b ≠ j) : (u1 σ k j x).1 k b = σ.1 k b := if_neg (fun q => h q.2)
theorem u1_two {σ : Sg} {k j : Nat} {x : Int32} : (u1 σ k j x).2 = σ.2 := rfl
theorem modr_8 {i j : Nat} (h : i < 8) : modOf (8 + i) j = 2 := by unfold modOf; rw [if_neg (by omega)]; revert h; revert i; decide
theorem modr_24 {i j : Nat} (h : i < 24) : modOf (24 + i) j = 3 := by unfold modOf; rw [if_neg (by omega)]; revert h; revert i; decide
theorem modr_49 {i j : Nat} (h : i < 24) : modOf (49 + i) j = 0 := by unfold modOf; rw [if_neg (by omega)]; revert h; revert i; decide
theorem modr_74 {i j : Nat} (h : i < 24) : modOf (74 + i) j = 0 := by unfold modOf; rw [if_neg (by omega)]; revert h; revert i; decide
theorem modr_104 {i j : Nat} (h : i < 8) : modOf (104 + i) j = 4 := by unfold modOf; rw [if_neg (by omega)]; revert h; revert i; decide
theorem modr_117 {i j : Nat} (h : i < 4) : modOf (117 + i) j = 5 := by unfold modOf; rw [if_neg (by omega)]; revert h; revert i; decide
theorem modr_128 {i j : Nat} (h : i < 96) : modOf (128 + i) j = 0 := by unfold modOf; rw [if_neg (by omega)]; revert h; revert i; decide
theorem modr_241 {i j : Nat} (h : i < 4) : modOf (241 + i) j = 9 := by unfold modOf; rw [if_neg (by omega)]; revert h; revert i; decide
