/-! ===== words as the reference finds them ===== -/
def WS (l : List Wd) (σ : Sg) : Prop := σ.1 245 7 = nI l.length ∧ ∀ w, w < l.length → σ.1 250 w = nI (wAt l w).1 ∧ σ.1 251 w = nI (wAt l w).2.1 ∧ σ.1 252 w = nI (wAt l w).2.2.1 ∧ σ.1 253 w = b2 (wAt l w).2.2.2
def wAdd (σ : Sg) (L : Nat) (t s n g : Int32) : Sg := u1 (u1 (u1 (u1 (u1 σ 250 L t) 251 L s) 252 L n) 253 L g) 245 7 (nI (L + 1))
theorem nar_b2 (g : Bool) : vp_nar .boolean (b2 g) = b2 g := by cases g <;> decide
theorem WS.add {l : List Wd} {σ : Sg} (h : WS l σ) (t s n : Nat) (g : Bool) : WS (l ++ [(t, s, n, g)]) (wAdd σ l.length (nI t) (nI s) (nI n) (b2 g)) := by
  obtain ⟨h1, h2⟩ := h
  have e0 : ∀ w, (wAdd σ l.length (nI t) (nI s) (nI n) (b2 g)).1 250 w = if w = l.length then nI t else σ.1 250 w := fun w => by
    unfold wAdd
    rw [u1_cell (by decide), u1_cell (by decide), u1_cell (by decide), u1_cell (by decide)]
    by_cases e : w = l.length
    · rw [if_pos e, e, u1_same]
    · rw [if_neg e, u1_slot e]
  have e1 : ∀ w, (wAdd σ l.length (nI t) (nI s) (nI n) (b2 g)).1 251 w = if w = l.length then nI s else σ.1 251 w := fun w => by
    unfold wAdd
    rw [u1_cell (by decide), u1_cell (by decide), u1_cell (by decide)]
    by_cases e : w = l.length
    · rw [if_pos e, e, u1_same]
    · rw [if_neg e, u1_slot e, u1_cell (by decide)]
  have e2 : ∀ w, (wAdd σ l.length (nI t) (nI s) (nI n) (b2 g)).1 252 w = if w = l.length then nI n else σ.1 252 w := fun w => by
    unfold wAdd
    rw [u1_cell (by decide), u1_cell (by decide)]
    by_cases e : w = l.length
    · rw [if_pos e, e, u1_same]
    · rw [if_neg e, u1_slot e, u1_cell (by decide), u1_cell (by decide)]
  have e3 : ∀ w, (wAdd σ l.length (nI t) (nI s) (nI n) (b2 g)).1 253 w = if w = l.length then b2 g else σ.1 253 w := fun w => by
    unfold wAdd
    rw [u1_cell (by decide)]
    by_cases e : w = l.length
    · rw [if_pos e, e, u1_same]
    · rw [if_neg e, u1_slot e, u1_cell (by decide), u1_cell (by decide), u1_cell (by decide)]
  refine ⟨?_, fun w hw => ?_⟩
  · rw [show (l ++ [(t, s, n, g)]).length = l.length + 1 by simp]
    exact u1_same
  · rw [show (l ++ [(t, s, n, g)]).length = l.length + 1 by simp] at hw
    rw [e0, e1, e2, e3]
    by_cases e : w = l.length
    · rw [if_pos e, if_pos e, if_pos e, if_pos e, e, show wAt (l ++ [(t, s, n, g)]) l.length = (t, s, n, g) from wAt_right (w := 0)]
      exact ⟨rfl, rfl, rfl, rfl⟩
    · rw [if_neg e, if_neg e, if_neg e, if_neg e, wAt_left (by omega)]
      exact h2 w (by omega)
