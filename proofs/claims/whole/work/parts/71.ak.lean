/-! ===== pairs with one stem, counted in two ways ===== -/
def allB (p : Nat → Bool) : Nat → Bool
  | 0 => true
  | n + 1 => allB p n && p n
theorem allB_iff {p : Nat → Bool} : ∀ {n}, allB p n = true ↔ ∀ i, i < n → p i = true := by
  intro n
  induction n with
  | zero => exact ⟨fun _ i hi => absurd hi (Nat.not_lt_zero i), fun _ => rfl⟩
  | succ n ih =>
    show (allB p n && p n) = true ↔ _
    rw [Bool.and_eq_true, ih]
    constructor
    · rintro ⟨h1, h2⟩ i hi
      by_cases e : i = n
      · rw [e]; exact h2
      · exact h1 i (by omega)
    · intro h
      exact ⟨fun i hi => h i (by omega), h n (Nat.lt_succ_self n)⟩
theorem allB_not {p : Nat → Bool} {n : Nat} : ¬ allB p n = true ↔ ∃ i, i < n ∧ p i = false := by
  rw [allB_iff]
  constructor
  · intro h
    by_cases e : ∃ i, i < n ∧ p i = false
    · exact e
    · exfalso
      apply h
      intro i hi
      cases hp : p i
      · exact absurd ⟨i, hi, hp⟩ e
      · rfl
  · rintro ⟨i, hi, hp⟩ h
    rw [h i hi] at hp; cases hp
/-- the least k below n with p, or n -/
def lst (p : Nat → Bool) : Nat → Nat
  | 0 => 0
  | n + 1 => if lst p n < n then lst p n else if p n = true then n else n + 1
theorem lst_ok (p : Nat → Bool) : ∀ n, lst p n ≤ n ∧ (∀ k, k < lst p n → p k = false) ∧ (lst p n < n → p (lst p n) = true) := by
  intro n
  induction n with
  | zero => exact ⟨Nat.le_refl _, fun k hk => absurd hk (Nat.not_lt_zero k), fun h => absurd h (Nat.lt_irrefl _)⟩
  | succ n ih =>
    obtain ⟨i1, i2, i3⟩ := ih
    unfold lst
    by_cases e : lst p n < n
    · rw [if_pos e]; exact ⟨by omega, i2, fun _ => i3 e⟩
    · have en : lst p n = n := by omega
      rw [en] at i2
      rw [if_neg e]
      by_cases e2 : p n = true
      · rw [if_pos e2]; exact ⟨by omega, i2, fun _ => e2⟩
      · rw [if_neg e2]
        refine ⟨Nat.le_refl _, fun k hk => ?_, fun h => absurd h (Nat.lt_irrefl _)⟩
        by_cases q : k = n
        · rw [q]; simpa using e2
        · exact i2 k (by omega)
theorem lst_eq {p : Nat → Bool} {n k : Nat} (hk : k ≤ n) (h : ∀ i, i < k → p i = false) (h2 : k < n → p k = true) : lst p n = k := by
  obtain ⟨a1, a2, a3⟩ := lst_ok p n
  rcases Nat.lt_trichotomy (lst p n) k with q | q | q
  · have := h _ q; rw [a3 (by omega)] at this; cases this
  · exact q
  · have := a2 k q; rw [h2 (by omega)] at this; cases this
theorem cnt_0 {p : Nat → Bool} : ∀ n, (∀ i, i < n → p i = false) → cnt p n = 0 := by
  intro n
  induction n with
  | zero => intro _; rfl
  | succ n ih => intro h; rw [cnt_s, ih (fun i hi => h i (by omega)), h n (by omega)]; rfl
theorem cnt_1 {p : Nat → Bool} {n k : Nat} (hk : k < n) (hp : p k = true) (hu : ∀ i, i < n → p i = true → i = k) : cnt p n = 1 := by
  induction n with
  | zero => omega
  | succ n ih =>
    rw [cnt_s]
    by_cases e : k = n
    · subst e
      rw [cnt_0 k (fun i hi => by
        cases h : p i
        · rfl
        · have := hu i (by omega) h; omega), if_pos hp]
    · rw [ih (by omega) (fun i hi => hu i (by omega)), if_neg]
      intro h
      have := hu n (by omega) h; omega
theorem cnt_chg {p q : Nat → Bool} {n k : Nat} (hk : k < n) (h : ∀ i, i < n → ¬ i = k → q i = p i) (hm : p k = true → q k = true) : cnt q n = cnt p n + if (q k && !p k) = true then 1 else 0 := by
  induction n with
  | zero => omega
  | succ n ih =>
    rw [cnt_s, cnt_s]
    by_cases e : k = n
    · subst e
      rw [cnt_cg k (fun i hi => h i (by omega) (by omega))]
      cases hp : p k <;> cases hq : q k <;> simp
      rw [hm hp] at hq; cases hq
    · rw [ih (by omega) (fun i hi => h i (by omega)), h n (by omega) (fun z => e z.symm)]
      omega
section AK
variable (sm : Nat → Nat → Bool) (P : Nat → Bool) (l : Nat → Nat)
def fs (w : Nat) : Nat := lst (fun v => sm v w) w
/-- the first word with its row -/
def Fb (w : Nat) : Bool := allB (fun v => !(sm w v && l w == l v)) w
/-- among the first n words one of the stem that is told by f ends in a -/
def EE : Nat → Nat → Nat → Bool
  | 0, _, _ => false
  | n + 1, f, a => EE n f a || (P n && fs sm n == f && l n == a)
def gB (w v : Nat) : Bool := sm w v && !(l w == l v) && Fb sm l w && Fb sm l v
def inc (w v a b : Nat) : Bool := gB sm l w v && ((l w == a && l v == b) || (l w == b && l v == a))
def Aa (n a b : Nat) : Nat := cnt (fun f => EE sm P l n f a && EE sm P l n f b) 96
def Bb (n a b : Nat) : Nat := sumN (fun w => cnt (fun v => inc sm l w v a b) w) n
variable {sm P l}
/-- one stem: an equivalence -/
def Eqv (sm : Nat → Nat → Bool) (P : Nat → Bool) : Prop := (∀ v w, sm v w = true → P v = true ∧ P w = true) ∧ (∀ w, P w = true → sm w w = true) ∧ (∀ v w, sm v w = true → sm w v = true) ∧ ∀ u v w, sm u v = true → sm v w = true → sm u w = true
theorem fs_le (w : Nat) : fs sm w ≤ w := (lst_ok _ w).1
theorem fs_sm (H : Eqv sm P) {w : Nat} (hw : P w = true) : sm (fs sm w) w = true := by
  obtain ⟨a1, a2, a3⟩ := lst_ok (fun v => sm v w) w
  by_cases e : fs sm w < w
  · exact a3 e
  · have : fs sm w = w := by have := fs_le (sm := sm) w; omega
    rw [this]; exact H.2.1 w hw
theorem fs_eq (H : Eqv sm P) {v w : Nat} (hv : P v = true) (hw : P w = true) : fs sm v = fs sm w ↔ sm v w = true := by
  obtain ⟨h1, h2, h3, h4⟩ := id H
  constructor
  · intro e
    have a := fs_sm H hv
    have b := fs_sm H hw
    rw [e] at a
    exact h4 _ _ _ (h3 _ _ a) b
  · intro e
    have a := fs_sm H hv
    have b := fs_sm H hw
    rcases Nat.lt_trichotomy (fs sm v) (fs sm w) with q | q | q
    · have := (lst_ok (fun v => sm v w) w).2.1 _ q
      have c := h4 _ _ _ a e
      rw [c] at this; cases this
    · exact q
    · have := (lst_ok (fun u => sm u v) v).2.1 _ q
      have c := h4 _ _ _ b (h3 _ _ e)
      rw [c] at this; cases this
theorem EE_iff {f a : Nat} : ∀ n, EE sm P l n f a = true ↔ ∃ w, w < n ∧ P w = true ∧ fs sm w = f ∧ l w = a := by
  intro n
  induction n with
  | zero => exact ⟨fun h => (by cases h), fun ⟨w, hw, _⟩ => absurd hw (Nat.not_lt_zero w)⟩
  | succ n ih =>
    unfold EE
    rw [Bool.or_eq_true, ih]
    constructor
    · rintro (⟨w, hw, h⟩ | h)
      · exact ⟨w, by omega, h⟩
      · simp only [Bool.and_eq_true, beq_iff_eq] at h
        exact ⟨n, Nat.lt_succ_self n, h.1.1, h.1.2, h.2⟩
    · rintro ⟨w, hw, h1, h2, h3⟩
      by_cases e : w = n
      · right; rw [← e]; simp [h1, h2, h3]
      · left; exact ⟨w, by omega, h1, h2, h3⟩
theorem Fb_iff {w : Nat} : Fb sm l w = true ↔ ∀ v, v < w → sm w v = true → ¬ l w = l v := by
  unfold Fb
  rw [allB_iff]
  constructor
  · intro h v hv hs e
    have := h v hv
    simp [hs, e] at this
  · intro h v hv
    cases hs : sm w v
    · rfl
    · have := h v hv hs
      simp [this]
theorem EE_n (H : Eqv sm P) {n a : Nat} (hn : P n = true) : EE sm P l n (fs sm n) a = true ↔ ∃ v, v < n ∧ sm n v = true ∧ l v = a := by
  obtain ⟨h1, h2, h3, h4⟩ := id H
  rw [EE_iff]
  constructor
  · rintro ⟨v, hv, p, e, q⟩
    exact ⟨v, hv, h3 _ _ ((fs_eq H p hn).mp e), q⟩
  · rintro ⟨v, hv, e, q⟩
    have p := (h1 _ _ e).2
    exact ⟨v, hv, p, (fs_eq H p hn).mpr (h3 _ _ e), q⟩
theorem AB (H : Eqv sm P) {a b : Nat} (hab : ¬ a = b) : ∀ n, n ≤ 96 → Aa sm P l n a b = Bb sm l n a b := by
  obtain ⟨h1, h2, h3, h4⟩ := id H
  intro n
  induction n with
  | zero => intro _; exact cnt_0 96 (fun _ _ => rfl)
  | succ n ih =>
    intro hn
    have i0 := ih (by omega)
    unfold Bb at i0 ⊢
    rw [sumN_s, ← i0]
    by_cases hp : P n = true
    · have f0 := fs_le (sm := sm) n
      have Es : ∀ f x, EE sm P l (n + 1) f x = (EE sm P l n f x || (P n && fs sm n == f && l n == x)) := fun _ _ => rfl
      unfold Aa
      rw [cnt_chg (p := fun f => EE sm P l n f a && EE sm P l n f b) (k := fs sm n) (by omega) (fun i hi hne => ?_) (fun h => ?_)]
      · congr 1
        -- what the new word brings
        have e0 : ∀ x, EE sm P l (n + 1) (fs sm n) x = (EE sm P l n (fs sm n) x || l n == x) := fun x => by rw [Es, hp]; simp
        rw [e0, e0]
        by_cases hF : EE sm P l n (fs sm n) (l n) = true
        · have nF : Fb sm l n = false := by
            obtain ⟨v, hv, k1, k2⟩ := (EE_n H hp).mp hF
            cases hc : Fb sm l n
            · rfl
            · exact absurd k2.symm (Fb_iff.mp hc v hv k1)
          rw [cnt_0 n (fun v _ => by unfold inc gB; rw [nF]; simp)]
          have same : ∀ x, (EE sm P l n (fs sm n) x || l n == x) = EE sm P l n (fs sm n) x := fun x => by
            by_cases e : l n = x
            · rw [← e, hF]; simp
            · simp [e]
          rw [same, same]
          simp
        · have hF0 : EE sm P l n (fs sm n) (l n) = false := by simpa using hF
          have yF : Fb sm l n = true := Fb_iff.mpr (fun v hv k1 k2 => hF ((EE_n H hp).mpr ⟨v, hv, k1, k2.symm⟩))
          -- how many first words of this stem end in x
          have one : ∀ x, ¬ l n = x → cnt (fun v => sm n v && Fb sm l v && l v == x) n = if EE sm P l n (fs sm n) x = true then 1 else 0 := by
            intro x hx
            by_cases he : EE sm P l n (fs sm n) x = true
            · rw [if_pos he]
              obtain ⟨v, ⟨hv, k1, k2⟩, k3⟩ := pk_least (fun v => v < n ∧ sm n v = true ∧ l v = x) ((EE_n H hp).mp he)
              have fv : Fb sm l v = true := Fb_iff.mpr (fun u hu q1 q2 => k3 u hu ⟨by omega, h4 _ _ _ k1 q1, by rw [← q2]; exact k2⟩)
              refine cnt_1 hv (by simp [k1, fv, k2]) (fun i hi q => ?_)
              simp only [Bool.and_eq_true, beq_iff_eq] at q
              rcases Nat.lt_trichotomy i v with z | z | z
              · exact absurd ⟨hi, q.1.1, q.2⟩ (k3 i z)
              · exact z
              · exact absurd (q.2.trans k2.symm) (Fb_iff.mp q.1.2 v z (h4 _ _ _ (h3 _ _ q.1.1) k1))
            · rw [if_neg he]
              refine cnt_0 n (fun v hv => ?_)
              cases hc : (sm n v && Fb sm l v && l v == x)
              · rfl
              · simp only [Bool.and_eq_true, beq_iff_eq] at hc
                exact absurd ((EE_n H hp).mpr ⟨v, hv, hc.1.1, hc.2⟩) he
          by_cases ea : l n = a
          · have eb : ¬ l n = b := fun z => hab (ea.symm.trans z)
            have ex : cnt (fun v => inc sm l n v a b) n = cnt (fun v => sm n v && Fb sm l v && l v == b) n := cnt_cg n (fun v _ => by
              unfold inc gB
              rw [yF]
              by_cases z : l v = b
              · have : ¬ l n = l v := fun y => eb (y.trans z)
                have h9 : (a == b) = false := by simpa using hab
                simp [ea, z, h9]
              · have z2 : (l v == b) = false := by simpa using z
                have z3 : (l n == b) = false := by simpa using eb
                rw [z2, z3]; simp)
            rw [ex, one b eb, ← ea, hF0, show (l n == b) = false by simpa using eb]
            cases EE sm P l n (fs sm n) b <;> simp
          · by_cases eb : l n = b
            · have ex : cnt (fun v => inc sm l n v a b) n = cnt (fun v => sm n v && Fb sm l v && l v == a) n := cnt_cg n (fun v _ => by
                unfold inc gB
                rw [yF]
                by_cases z : l v = a
                · have : ¬ l n = l v := fun y => ea (y.trans z)
                  have h' : ¬ b = a := fun y => hab y.symm
                  have h9 : (b == a) = false := by simpa using h'
                  simp [eb, z, h9]
                · have z2 : (l v == a) = false := by simpa using z
                  have z3 : (l n == a) = false := by simpa using ea
                  rw [z2, z3]; simp)
              rw [ex, one a ea, ← eb, hF0, show (l n == a) = false by simpa using ea]
              cases EE sm P l n (fs sm n) a <;> simp
            · rw [cnt_0 n (fun v _ => by unfold inc; rw [show (l n == a) = false by simpa using ea, show (l n == b) = false by simpa using eb]; simp), show (l n == a) = false by simpa using ea, show (l n == b) = false by simpa using eb]
              simp
      · rw [Es, Es]
        have : (fs sm n == i) = false := by simpa using fun z : fs sm n = i => hne z.symm
        rw [this]; simp
      · rw [Bool.and_eq_true] at h
        rw [Es, Es, h.1, h.2]; rfl
    · have hp0 : P n = false := by simpa using hp
      have : Aa sm P l (n + 1) a b = Aa sm P l n a b := cnt_cg 96 (fun f _ => by
        show ((EE sm P l n f a || (P n && fs sm n == f && l n == a)) && (EE sm P l n f b || (P n && fs sm n == f && l n == b))) = _
        rw [hp0]; simp)
      rw [this, cnt_0 n (fun v _ => by
        have : sm n v = false := by
          cases hc : sm n v
          · rfl
          · exact absurd (h1 _ _ hc).1 hp
        unfold inc gB
        rw [this]; rfl)]
      exact (Nat.add_zero _).symm
end AK
