/-- only what the search for words writes has changed -/
def Fr (σ σ' : Sg) : Prop := Chg [0] σ σ' ∧ ∀ x, σ'.1 247 x = σ.1 247 x
theorem Fr.add {σ σ' : Sg} (h : Fr σ σ') (L : Nat) (t s n g : Int32) : Fr σ (wAdd σ' L t s n g) := by
  refine ⟨?_, fun x => ?_⟩
  · unfold wAdd
    exact ((((h.1.u1 (by rw [show ∀ j, modOf 250 j = 0 from fun _ => rfl]; decide)).u1 (by rw [show ∀ j, modOf 251 j = 0 from fun _ => rfl]; decide)).u1 (by rw [show ∀ j, modOf 252 j = 0 from fun _ => rfl]; decide)).u1 (by rw [show ∀ j, modOf 253 j = 0 from fun _ => rfl]; decide)).u1 (by decide)
  · unfold wAdd
    rw [u1_cell (by decide), u1_cell (by decide), u1_cell (by decide), u1_cell (by decide), u1_cell (by decide)]
    exact h.2 x
theorem noGap_s {cell : Nat → Int32} {s c : Nat} (h : s ≤ c) : noGap cell s (c + 1 - s) = (noGap cell s (c - s) && !(cell c == -1)) := by
  rw [show c + 1 - s = c - s + 1 by omega]
  unfold noGap
  rw [show s + (c - s) = c by omega]
  cases hc : c - s <;> simp [noGap]
