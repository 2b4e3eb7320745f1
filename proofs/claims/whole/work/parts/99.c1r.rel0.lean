/-! ===== the start: what the constructors leave ===== -/
def st0 : Sg := (fun a j => if (a = 1 ∧ j = 4) ∨ (a = 245 ∧ j = 2) then 1 else if (a = 239 ∨ a = 283) ∧ j < 4 then -4 else 0, fun _ _ => 0)
theorem st0_z {a j : Nat} (h1 : ¬ ((a = 1 ∧ j = 4) ∨ (a = 245 ∧ j = 2))) (h2 : ¬ ((a = 239 ∨ a = 283) ∧ j < 4)) : st0.1 a j = nI 0 := by
  show (if (a = 1 ∧ j = 4) ∨ (a = 245 ∧ j = 2) then (1 : Int32) else if (a = 239 ∨ a = 283) ∧ j < 4 then -4 else 0) = nI 0
  rw [if_neg h1, if_neg h2]; rfl
theorem Rel_st0 : Rel st0 := by
  refine ⟨⟨0, 1, fun _ => 0, 0, fun _ => 0, fun _ _ => 0, ⟨by decide, by decide, by decide, by decide, by decide, by decide, fun i hi => absurd hi (by omega)⟩, ⟨by decide, by decide, by decide, fun t ht => absurd ht (by omega), by decide, fun w hw => absurd hw (Nat.not_lt_zero w)⟩⟩, ⟨fun _ _ => 0, fun a ha b hb => ⟨Nat.zero_le 9, st0_z (by omega) (by omega), st0_z (by omega) (by omega)⟩⟩, ⟨0, by decide, by decide, by decide, fun a ha => absurd ha (by omega)⟩, ⟨0, fun _ => 0, fun _ => 0, by decide, by decide, by decide, fun a ha => absurd ha (by omega)⟩, ⟨0, fun _ => 0, fun _ => 0, by decide, by decide, by decide, fun a ha => absurd ha (by omega), fun key hk => ⟨fun h => ?_, fun ⟨w, hw, _⟩ => absurd hw (by omega)⟩⟩, ⟨0, fun _ => 0, by decide, by decide, by decide, fun i hi => absurd hi (by omega)⟩, ⟨0, 0, fun _ => 0, fun _ => 0, fun _ => 0, fun _ => 0, fun _ => 0, fun _ => 0, fun _ => false, by decide, by decide, by decide, by decide, by decide, by decide, by decide, fun k hk => absurd hk (by omega), fun k hk => absurd hk (by omega)⟩, fun k hk => Or.inl ⟨?_, ?_⟩⟩
  · have : (0 : Int64).toBitVec.getLsbD (key % 64) = true := h
    rw [show (0 : Int64).toBitVec = 0#64 from rfl, BitVec.getLsbD_zero] at this
    exact absurd this (by decide)
  · show (if (239 = 1 ∧ k = 4) ∨ (239 = 245 ∧ k = 2) then (1 : Int32) else if (239 = 239 ∨ 239 = 283) ∧ k < 4 then -4 else 0) = -4
    rw [if_neg (by omega), if_pos (by omega)]
  · show (if (283 = 1 ∧ k = 4) ∨ (283 = 245 ∧ k = 2) then (1 : Int32) else if (283 = 239 ∨ 283 = 283) ∧ k < 4 then -4 else 0) = -4
    rw [if_neg (by omega), if_pos (by omega)]
