/-! ===== names along texts ===== -/
/-- sound p of a name -/
def snd' (nn pk : Nat → Nat) (a p : Nat) : Nat := pk a / 4 ^ (nn a - 1 - p) % 4
/-- one pair of places is as it should be -/
def okp (S : Nat → Nat → Int32) (nn pk : Nat → Nat) (a t c b u d p q : Nat) : Prop := (S t (c + p) = S u (d + q)) ↔ (snd' nn pk a p = snd' nn pk b q)
def agP (S : Nat → Nat → Int32) (nn pk : Nat → Nat) (a t c b u d : Nat) : Prop := ∀ p, p < nn a → ∀ q, q < nn b → okp S nn pk a t c b u d p q
def fitP (S : Nat → Nat → Int32) (tl nn pk : Nat → Nat) (a t c : Nat) : Prop := c + nn a ≤ tl t ∧ (∀ p, p < nn a → 0 ≤ S t (c + p)) ∧ agP S nn pk a t c a t c
def SS (ft : Nat → Nat) (nF lk : Nat) (tc : Nat → Nat → Int32) (t c : Nat) : Int32 := sgv ft nF lk (tc t c)
section NG
variable {N : Nat} {σ : Sg} {Q : Option Value → Sg → Prop} {nF lk nT nN : Nat} {ft tl nn pk : Nat → Nat} {tc : Nat → Nat → Int32}
theorem snd_lt (a p : Nat) : snd' nn pk a p < 4 := Nat.mod_lt _ (by decide)
theorem C_agree (hF : RF nF lk ft σ) (hT : RT nF nT tl tc σ) (hN : RN nN nn pk σ) {a t c b u d : Nat} (ha : a < nN) (hb : b < nN) (ht : t < nT) (hu : u < nT) (hc : c + nn a ≤ tl t) (hd : d + nn b ≤ tl u)
    (h1 : agP (SS ft nF lk tc) nn pk a t c b u d → Q (some (.int 1)) σ) (h0 : ¬ agP (SS ft nF lk tc) nn pk a t c b u d → Q (some (.int 0)) σ) : EvM (N + 2) mX4_agree [.ref 115, .int (nI a), .int (nI t), .int (nI c), .int (nI b), .int (nI u), .int (nI d)] σ Q := by
  obtain ⟨n1, n2, n3, n4'⟩ := id hN
  obtain ⟨a1, a2, a3, a4, a5, a6, a7⟩ := n4' a ha
  obtain ⟨b1, b2, b3, b4, b5, b6, b7⟩ := n4' b hb
  have tl1 := (hT.2.2.2.1 t ht).2.1
  have tl2 := (hT.2.2.2.1 u hu).2.1
  have v1 : vp_in (nI a) 4 := nvin (by omega) (by omega)
  have v2 : vp_in (nI b) 4 := nvin (by omega) (by omega)
  have L : ∀ p, p ≤ nn a → (∀ p', p' < p → ∀ q, q < nn b → okp (SS ft nF lk tc) nn pk a t c b u d p' q) → KX4_agree_3 N σ Q (nI a) (nI t) (nI c) (nI b) (nI u) (nI d) (nI p) := by
    refine for_up ?_ ?_
    · intro h
      refine BX4_agree_3 ⟨v1, ?_⟩
      rw [cl (by omega), a4]
      exact ⟨fun _ => h1 h, fun q => absurd (nI_le (Nat.le_refl _) (by omega)) q⟩
    · intro p hp ih h
      have J : ∀ q, q ≤ nn b → (∀ q', q' < q → okp (SS ft nF lk tc) nn pk a t c b u d p q') → KX4_agree_17 N σ Q (nI a) (nI t) (nI c) (nI b) (nI u) (nI d) (nI p) (nI q) := by
        refine for_up ?_ ?_
        · intro h2
          refine BX4_agree_17 ⟨v2, ?_⟩
          rw [cl (by omega), b4, nI_1]
          refine ⟨fun _ => ih (fun p' hp' q hq => ?_), fun q => absurd (nI_le (Nat.le_refl _) (by omega)) q⟩
          by_cases e : p' = p
          · rw [e]; exact h2 q hq
          · exact h p' (by omega) q hq
        · intro q hq ihq h2
          refine BX4_agree_17 ⟨v2, ?_⟩
          rw [cl (by omega), b4, nI_1, nI_1, nI_add, nI_add]
          refine ⟨fun z => absurd z (nI_ge hq (by omega)), fun _ => C_signAt hF hT ht (by omega) ⟨_, rfl, C_signAt hF hT hu (by omega) ⟨_, rfl, ?_⟩⟩⟩
          rw [if_pos (show c + p < tl t by omega), if_pos (show d + q < tl u by omega), cl (by omega), cl (by omega), cl (by omega), a7 p hp, b7 q hq]
          have s1 := snd_lt (nn := nn) (pk := pk) a p
          have s2 := snd_lt (nn := nn) (pk := pk) b q
          have es : (nI (pk a / 4 ^ (nn a - 1 - p) % 4) = nI (pk b / 4 ^ (nn b - 1 - q) % 4)) ↔ snd' nn pk a p = snd' nn pk b q := nI_eq (a := snd' nn pk a p) (b := snd' nn pk b q) (by omega) (by omega)
          have vp : vp_in (nI p) 8 := nvin (by omega) (by omega)
          have vq : vp_in (nI q) 8 := nvin (by omega) (by omega)
          have go : okp (SS ft nF lk tc) nn pk a t c b u d p q → KX4_agree_17 N σ Q (nI a) (nI t) (nI c) (nI b) (nI u) (nI d) (nI p) (nI (q + 1)) := fun ok => ihq (fun q' hq' => by
            by_cases e : q' = q
            · rw [e]; exact ok
            · exact h2 q' (by omega))
          have no : ¬ okp (SS ft nF lk tc) nn pk a t c b u d p q → Q (some (.int 0)) σ := fun nk => h0 (fun z => nk (z p hp q hq))
          refine ⟨fun z => ⟨v1, vp, v2, vq, fun z2 => go ⟨fun _ => es.mp z2, fun _ => z⟩, fun z2 => no (fun k => z2 (es.mpr (k.mp z)))⟩, fun z => ⟨v1, vp, v2, vq, fun z2 => no (fun k => z (k.mpr (es.mp z2))), fun z2 => go ⟨fun k => absurd k z, fun k => absurd (es.mpr k) z2⟩⟩⟩
      refine BX4_agree_3 ⟨v1, ?_⟩
      rw [cl (by omega), a4]
      exact ⟨fun z => absurd z (nI_ge hp (by omega)), fun _ => J 0 (by omega) (fun q hq => absurd hq (by omega))⟩
  exact EX4_agree (L 0 (by omega) (fun p hp => absurd hp (by omega)))
theorem C_fits (hF : RF nF lk ft σ) (hT : RT nF nT tl tc σ) (hN : RN nN nn pk σ) {a t c : Nat} (ha : a < nN) (ht : t < nT) (hc : c < tl t)
    (h1 : fitP (SS ft nF lk tc) tl nn pk a t c → Q (some (.int 1)) σ) (h0 : ¬ fitP (SS ft nF lk tc) tl nn pk a t c → Q (some (.int 0)) σ) : EvM (N + 3) mX4_fits [.ref 115, .int (nI a), .int (nI t), .int (nI c)] σ Q := by
  obtain ⟨n1, n2, n3, n4'⟩ := id hN
  obtain ⟨a1, a2, a3, a4, a5, a6, a7⟩ := n4' a ha
  have tl1 := (hT.2.2.2.1 t ht).2.1
  have v1 : vp_in (nI a) 4 := nvin (by omega) (by omega)
  have L : ∀ p, p ≤ nn a → (∀ p', p' < p → c + p' < tl t ∧ 0 ≤ SS ft nF lk tc t (c + p')) → KX4_fits_3 N σ Q (nI a) (nI t) (nI c) (nI p) := by
    refine for_up ?_ ?_
    · intro h
      refine BX4_fits_3 ⟨v1, ?_⟩
      rw [cl (by omega), a4]
      have hcn : c + nn a ≤ tl t := by have := (h (nn a - 1) (by omega)).1; omega
      exact ⟨fun _ => C_agree hF hT hN ha ha ht ht hcn hcn (fun z => ⟨_, rfl, rfl, h1 ⟨hcn, fun p hp => (h p hp).2, z⟩⟩) (fun z => ⟨_, rfl, rfl, h0 (fun k => z k.2.2)⟩), fun q => absurd (nI_le (Nat.le_refl _) (by omega)) q⟩
    · intro p hp ih h
      refine BX4_fits_3 ⟨v1, ?_⟩
      rw [cl (by omega), a4, nI_1, nI_add]
      refine ⟨fun q => absurd q (nI_ge hp (by omega)), fun _ => C_signAt hF hT ht (by omega) ⟨_, rfl, fun z => ?_, fun z => ?_⟩⟩
      · by_cases e : c + p < tl t
        · rw [if_pos e] at z
          refine ih (fun p' hp' => ?_)
          by_cases e2 : p' = p
          · rw [e2]; exact ⟨e, z⟩
          · exact h p' (by omega)
        · rw [if_neg e] at z; exact absurd z (by decide)
      · refine h0 (fun k => z ?_)
        rw [if_pos (show c + p < tl t by have := k.1; omega)]
        exact k.2.1 p hp
  exact EX4_fits (L 0 (by omega) (fun p hp => absurd hp (by omega)))
theorem M_sound (hN : RN nN nn pk σ) {a p : Nat} (ha : a < nN) (hp : p < nn a) (h : Q (some (.int (nI (snd' nn pk a p)))) σ) : EvM N mX10_soundAt [.ref 245, .int (nI a), .int (nI p)] σ Q := by
  obtain ⟨n1, n2, n3, n4'⟩ := id hN
  obtain ⟨a1, a2, a3, a4, a5, a6, a7⟩ := n4' a ha
  have p8 : pk a < 65536 := Nat.lt_of_lt_of_le a3 (by have : 4 ^ nn a ≤ 4 ^ 8 := Nat.pow_le_pow_right (by decide) a2; omega)
  have v1 : vp_in (nI a) 4 := nvin (by omega) (by omega)
  refine EX10_soundAt ⟨v1, v1, ?_⟩
  rw [cl (by omega), a5, a6, show nI (nn a) - 1 = nI (nn a - 1) from pk_sub (b := 1) a1, pk_sub (by omega), quart (by omega) (by omega)]
  exact h
theorem M_agree (hF : RF nF lk ft σ) (hT : RT nF nT tl tc σ) (hG : SG nF lk ft σ) (hN : RN nN nn pk σ) {a t c b u d : Nat} (ha : a < nN) (hb : b < nN) (ht : t < nT) (hu : u < nT) (hc : c + nn a ≤ tl t) (hd : d + nn b ≤ tl u)
    (h1 : agP (SS ft nF lk tc) nn pk a t c b u d → Q (some (.int 1)) σ) (h0 : ¬ agP (SS ft nF lk tc) nn pk a t c b u d → Q (some (.int 0)) σ) : EvM (N + 1) mX10_doAgree [.ref 245, .int (nI a), .int (nI t), .int (nI c), .int (nI b), .int (nI u), .int (nI d)] σ Q := by
  obtain ⟨n1, n2, n3, n4'⟩ := id hN
  obtain ⟨a1, a2, a3, a4, a5, a6, a7⟩ := n4' a ha
  obtain ⟨b1, b2, b3, b4, b5, b6, b7⟩ := n4' b hb
  have tl1 := (hT.2.2.2.1 t ht).2.1
  have tl2 := (hT.2.2.2.1 u hu).2.1
  have v1 : vp_in (nI a) 4 := nvin (by omega) (by omega)
  have v2 : vp_in (nI b) 4 := nvin (by omega) (by omega)
  have L : ∀ p, p ≤ nn a → (∀ f : Int32, (f = 1 ∧ (∀ p', p' < p → ∀ q, q < nn b → okp (SS ft nF lk tc) nn pk a t c b u d p' q)) ∨ (f = 0 ∧ ¬ agP (SS ft nF lk tc) nn pk a t c b u d) → KX10_doAgree_6 N σ Q (nI a) (nI t) (nI c) (nI b) (nI u) (nI d) f (nI p)) := by
    refine for_up ?_ ?_
    · intro f h
      refine BX10_doAgree_6 ⟨v1, ?_⟩
      rw [cl (by omega), a5]
      refine ⟨fun _ => ?_, fun q => absurd (nI_le (Nat.le_refl _) (by omega)) q⟩
      rcases h with ⟨rfl, h⟩ | ⟨rfl, h⟩
      · exact ⟨rfl, h1 h⟩
      · exact ⟨rfl, h0 h⟩
    · intro p hp ih f h
      have J : ∀ q, q ≤ nn b → (∀ f : Int32, (f = 1 ∧ (∀ p', p' < p → ∀ q, q < nn b → okp (SS ft nF lk tc) nn pk a t c b u d p' q) ∧ (∀ q', q' < q → okp (SS ft nF lk tc) nn pk a t c b u d p q')) ∨ (f = 0 ∧ ¬ agP (SS ft nF lk tc) nn pk a t c b u d) → KX10_doAgree_20 N σ Q (nI a) (nI t) (nI c) (nI b) (nI u) (nI d) f (nI p) (nI q)) := by
        refine for_up ?_ ?_
        · intro f h2
          refine BX10_doAgree_20 ⟨v2, ?_⟩
          rw [cl (by omega), b5, nI_1]
          refine ⟨fun _ => ih f ?_, fun q => absurd (nI_le (Nat.le_refl _) (by omega)) q⟩
          rcases h2 with ⟨e, h2, h3⟩ | h2
          · refine Or.inl ⟨e, fun p' hp' q hq => ?_⟩
            by_cases e : p' = p
            · rw [e]; exact h3 q hq
            · exact h2 p' (by omega) q hq
          · exact Or.inr h2
        · intro q hq ihq f h2
          refine BX10_doAgree_20 ⟨v2, ?_⟩
          rw [cl (by omega), b5, nI_1, nI_1, nI_add, nI_add]
          refine ⟨fun z => absurd z (nI_ge hq (by omega)), fun _ => ?_⟩
          rcases h2 with ⟨rfl, h2, h3⟩ | ⟨rfl, h2⟩
          · refine ⟨fun z => absurd z (by decide), fun _ => M_at hF hT hG ht (by omega) ⟨_, rfl, M_at hF hT hG hu (by omega) ⟨_, rfl, ?_⟩⟩⟩
            have s1 := snd_lt (nn := nn) (pk := pk) a p
            have s2 := snd_lt (nn := nn) (pk := pk) b q
            have es : (nI (snd' nn pk a p) = nI (snd' nn pk b q)) ↔ snd' nn pk a p = snd' nn pk b q := nI_eq (by omega) (by omega)
            have go : okp (SS ft nF lk tc) nn pk a t c b u d p q → KX10_doAgree_20 N σ Q (nI a) (nI t) (nI c) (nI b) (nI u) (nI d) 1 (nI p) (nI (q + 1)) := fun ok => ihq 1 (Or.inl ⟨rfl, h2, fun q' hq' => by
              by_cases e : q' = q
              · rw [e]; exact ok
              · exact h3 q' (by omega)⟩)
            have no : ¬ okp (SS ft nF lk tc) nn pk a t c b u d p q → KX10_doAgree_20 N σ Q (nI a) (nI t) (nI c) (nI b) (nI u) (nI d) 0 (nI p) (nI (q + 1)) := fun nk => ihq 0 (Or.inr ⟨rfl, fun z => nk (z p hp q hq)⟩)
            refine ⟨fun z => M_sound hN ha hp ⟨_, rfl, M_sound hN hb hq ⟨_, rfl, fun z2 => go ⟨fun _ => es.mp z2, fun _ => z⟩, fun z2 => no (fun k => z2 (es.mpr (k.mp z)))⟩⟩, fun z => M_sound hN ha hp ⟨_, rfl, M_sound hN hb hq ⟨_, rfl, fun z2 => no (fun k => z (k.mpr (es.mp z2))), fun z2 => go ⟨fun k => absurd k z, fun k => absurd (es.mpr k) z2⟩⟩⟩⟩
          · exact ⟨fun _ => ihq 0 (Or.inr ⟨rfl, h2⟩), fun z => absurd rfl z⟩
      refine BX10_doAgree_6 ⟨v1, ?_⟩
      rw [cl (by omega), a5]
      refine ⟨fun z => absurd z (nI_ge hp (by omega)), fun _ => J 0 (by omega) f ?_⟩
      rcases h with ⟨e, h⟩ | h
      · exact Or.inl ⟨e, h, fun q hq => absurd hq (by omega)⟩
      · exact Or.inr h
  exact EX10_doAgree (L 0 (by omega) 1 (Or.inl ⟨rfl, fun p hp => absurd hp (by omega)⟩))
theorem M_fits (hF : RF nF lk ft σ) (hT : RT nF nT tl tc σ) (hG : SG nF lk ft σ) (hN : RN nN nn pk σ) {a t c : Nat} (ha : a < nN) (ht : t < nT) (hc : c < tl t)
    (h1 : fitP (SS ft nF lk tc) tl nn pk a t c → Q (some (.int 1)) σ) (h0 : ¬ fitP (SS ft nF lk tc) tl nn pk a t c → Q (some (.int 0)) σ) : EvM (N + 2) mX10_doesFit [.ref 245, .int (nI a), .int (nI t), .int (nI c)] σ Q := by
  obtain ⟨n1, n2, n3, n4'⟩ := id hN
  obtain ⟨a1, a2, a3, a4, a5, a6, a7⟩ := n4' a ha
  have tl1 := (hT.2.2.2.1 t ht).2.1
  have tl4 := (hT.2.2.2.1 t ht).2.2.2.1
  have n8 := hT.1
  have v1 : vp_in (nI a) 4 := nvin (by omega) (by omega)
  refine EX10_doesFit ⟨v1, nvin (by omega) (by omega), ?_⟩
  rw [cl (by omega), cl (by omega), a5, tl4, nI_add]
  refine ⟨fun q => ?_, fun q => h0 (fun k => q (nI_le k.1 (by omega)))⟩
  have hcn : c + nn a ≤ tl t := (nI_leI (by omega) (by omega)).mp q
  have L : ∀ p, p ≤ nn a → (∀ p', p' < p → 0 ≤ SS ft nF lk tc t (c + p')) → KX10_doesFit_22 N σ Q (nI a) (nI t) (nI c) (nI p) := by
    refine for_up ?_ ?_
    · intro h
      refine BX10_doesFit_22 ⟨v1, ?_⟩
      rw [cl (by omega), a5]
      exact ⟨fun _ => M_agree hF hT hG hN ha ha ht ht hcn hcn (fun z => ⟨_, rfl, rfl, h1 ⟨hcn, h, z⟩⟩) (fun z => ⟨_, rfl, rfl, h0 (fun k => z k.2.2)⟩), fun q => absurd (nI_le (Nat.le_refl _) (by omega)) q⟩
    · intro p hp ih h
      refine BX10_doesFit_22 ⟨v1, ?_⟩
      rw [cl (by omega), a5, nI_1, nI_add]
      refine ⟨fun q => absurd q (nI_ge hp (by omega)), fun _ => M_at hF hT hG ht (by omega) ⟨_, rfl, fun z => ih (fun p' hp' => ?_), fun z => h0 (fun k => z (k.2.1 p hp))⟩⟩
      by_cases e2 : p' = p
      · rw [e2]; exact z
      · exact h p' (by omega)
  exact L 0 (by omega) (fun p hp => absurd hp (by omega))
end NG
section ND
variable {N : Nat} {σ : Sg} {Q : Option Value → Sg → Prop}
theorem C10_isText {nT : Nat} {x : Int32} (hs : σ.1 245 4 = nI nT) (hn : nT ≤ 8) (h1 : vp_in x nT → Q (some (.int 1)) σ) (h0 : ¬ vp_in x nT → Q (some (.int 0)) σ) : EvM (N + 1) mX10_isText [.ref 245, .int x] σ Q := by
  refine EX10_isText ⟨fun c => h1 ?_, fun c => h0 ?_⟩ <;> rw [hs] at c <;> clear h1 h0 hs <;> ((try simp (disch := (first | omega | ((try simp (disch := omega) only [i_nI, Int32.reduceToInt, i_l]) <;> omega))) only [i_le, i_lt, i_eq, Int32.reduceToInt, i_nI, i_l, li0, vp_in_iff, i_sub, i_add] at *) <;> omega)
theorem C10_isName {nN : Nat} {x : Int32} (hs : σ.1 245 27 = nI nN) (hn : nN ≤ 4) (h1 : vp_in x nN → Q (some (.int 1)) σ) (h0 : ¬ vp_in x nN → Q (some (.int 0)) σ) : EvM (N + 1) mX10_isName [.ref 245, .int x] σ Q := by
  refine EX10_isName ⟨fun c => h1 ?_, fun c => h0 ?_⟩ <;> rw [hs] at c <;> clear h1 h0 hs <;> ((try simp (disch := (first | omega | ((try simp (disch := omega) only [i_nI, Int32.reduceToInt, i_l]) <;> omega))) only [i_le, i_lt, i_eq, Int32.reduceToInt, i_nI, i_l, li0, vp_in_iff, i_sub, i_add] at *) <;> omega)
theorem in_iff {x y : Int32} {n : Nat} (hs : y = nI n) (hn : n ≤ 1000) : (0 ≤ x.toInt ∧ x.toInt < y.toInt) ↔ vp_in x n := by
  rw [hs, vp_in_iff, i_nI (by omega)]
end ND
/-- how many, the first, the last of what holds below n -/
def fst' (p : Nat → Prop) [DecidablePred p] : Nat → Int32
  | 0 => -4
  | n + 1 => if fst' p n = -4 ∧ p n then nI n else fst' p n
def lst' (p : Nat → Prop) [DecidablePred p] : Nat → Int32
  | 0 => -4
  | n + 1 => if p n then nI n else lst' p n
theorem fst_ok (p : Nat → Prop) [DecidablePred p] : ∀ n, n < 2147483648 → (fst' p n = -4 ↔ cnt (fun i => decide (p i)) n = 0) := by
  intro n
  induction n with
  | zero => intro _; exact ⟨fun _ => rfl, fun _ => rfl⟩
  | succ n ih =>
    intro hn
    have := ih (by omega)
    rw [cnt_s]
    show (if fst' p n = -4 ∧ p n then nI n else fst' p n) = -4 ↔ _
    by_cases e : p n
    · by_cases e2 : fst' p n = -4
      · rw [if_pos ⟨e2, e⟩, if_pos (by simp [e])]
        exact ⟨fun q => absurd q (n4 (by omega)), fun q => by omega⟩
      · rw [if_neg (fun z => e2 z.1), if_pos (by simp [e])]
        exact ⟨fun q => absurd q e2, fun q => by omega⟩
    · rw [if_neg (fun z => e z.2), if_neg (by simp [e])]; exact this
theorem O_dragged {σ : Sg} (hR : Rel σ) (a b c : Int32) : OPi mX9_dragged mX10_dragged [.int a, .int b, .int c] σ := by
  obtain ⟨nF, lk, ft, nT, tl, tc, hF, hT⟩ := hR.1
  obtain ⟨nN, nn, pk, hN⟩ := hR.2.2.2.1
  have g2 := hT.2.1; have g3 := hT.2.2.1; have g1 := hT.1
  have m1 := hN.1; have m2 := hN.2.1; have m3 := hN.2.2.1
  have bad : (¬ vp_in a nN ∨ ¬ vp_in b nT ∨ ¬ (0 ≤ c.toInt ∧ c.toInt ≤ 2)) → EvM 40 mX10_dragged [.ref 245, .int a, .int b, .int c] σ (fun r2 σ2 => r2 = some (.int (-1)) ∧ Rel σ2) := by
    intro hb
    refine EX10_dragged (C10_isName m3 m1 (fun p => ⟨_, rfl, fun q => absurd q (by decide), fun _ => C10_isText g3 g1 (fun p2 => ⟨_, rfl, fun q => absurd q (by decide), fun _ => ⟨fun q => ?_, fun _ => ⟨rfl, hR⟩⟩⟩) (fun _ => ⟨_, rfl, fun _ => ⟨rfl, hR⟩, fun q => absurd rfl q⟩)⟩) (fun _ => ⟨_, rfl, fun _ => ⟨rfl, hR⟩, fun q => absurd rfl q⟩))
    exfalso
    rw [i_l] at q
    rcases hb with z | z | z
    · exact z p
    · exact z p2
    · exact z q
  have badC : ∀ {P : Prop}, (P → EvM 40 mX10_dragged [.ref 245, .int a, .int b, .int c] σ (fun r2 σ2 => r2 = some (.int (-1)) ∧ Rel σ2)) → (P → ∃ v1, some (Value.int (-1)) = some (.int v1) ∧ ∃ v, some (Value.int v1) = some (.int v) ∧ EvM 40 mX10_dragged [.ref 245, .int a, .int b, .int c] σ (fun r2 σ2 => r2 = some (.int v) ∧ Rel σ2)) := fun f p => ⟨_, rfl, _, rfl, f p⟩
  refine EX9_dragged (EX4_drag ⟨fun pa => ⟨fun pb => ⟨badC fun q => bad (Or.inr (Or.inr ?_)), fun q => ⟨fun q2 => ?_, badC fun q2 => bad (Or.inr (Or.inr ?_))⟩⟩, badC fun q => bad (Or.inr (Or.inl (fun z => q ((in_iff g2 (by omega)).mpr z))))⟩, badC fun q => bad (Or.inl (fun z => q ((in_iff m2 (by omega)).mpr z)))⟩)
  · clear bad badC hR hF hT hN g2 g3 m2 m3; ((try simp (disch := (first | omega | ((try simp (disch := omega) only [i_nI, Int32.reduceToInt, i_l]) <;> omega))) only [i_le, i_lt, i_eq, Int32.reduceToInt, i_nI, i_l, li0, vp_in_iff, i_sub, i_add] at *) <;> omega)
  · obtain ⟨k, hk, rfl⟩ := vin ((in_iff m2 (by omega)).mp pa) (by omega)
    obtain ⟨t, ht, rfl⟩ := vin ((in_iff g2 (by omega)).mp pb) (by omega)
    obtain ⟨w, hw, rfl⟩ : ∃ w : Nat, w ≤ 2 ∧ c = nI w := ⟨c.toInt.toNat, by clear bad badC hR hF hT hN g2 g3 m2 m3 pa pb; ((try simp (disch := (first | omega | ((try simp (disch := omega) only [i_nI, Int32.reduceToInt, i_l]) <;> omega))) only [i_le, i_lt, i_eq, Int32.reduceToInt, i_nI, i_l, li0, vp_in_iff, i_sub, i_add] at *) <;> omega), i_of (by clear bad badC hR hF hT hN g2 g3 m2 m3 pa pb; ((try simp (disch := (first | omega | ((try simp (disch := omega) only [i_nI, Int32.reduceToInt, i_l]) <;> omega))) only [i_le, i_lt, i_eq, Int32.reduceToInt, i_nI, i_l, li0, vp_in_iff, i_sub, i_add] at *) <;> omega)) (by clear bad badC hR hF hT hN g2 g3 m2 m3 pa pb; ((try simp (disch := (first | omega | ((try simp (disch := omega) only [i_nI, Int32.reduceToInt, i_l]) <;> omega))) only [i_le, i_lt, i_eq, Int32.reduceToInt, i_nI, i_l, li0, vp_in_iff, i_sub, i_add] at *) <;> omega))⟩
    clear pa pb bad badC
    have tl1 := (hT.2.2.2.1 t ht).2.1
    have tl4 := (hT.2.2.2.1 t ht).2.2.2.1
    haveI : DecidablePred (fun i => fitP (SS ft nF lk tc) tl nn pk k t i) := fun i => Classical.propDecidable _
    have val : ∀ v : Int32, v = (if w = 0 then nI (cnt (fun i => decide (fitP (SS ft nF lk tc) tl nn pk k t i)) (tl t)) else if w = 1 then fst' (fun i => fitP (SS ft nF lk tc) tl nn pk k t i) (tl t) else lst' (fun i => fitP (SS ft nF lk tc) tl nn pk k t i) (tl t)) → EvM 40 mX10_dragged [.ref 245, .int (nI k), .int (nI t), .int (nI w)] σ (fun r2 σ2 => r2 = some (.int v) ∧ Rel σ2) := by
      intro v hv
      refine EX10_dragged (C10_isName m3 m1 (fun p => ⟨_, rfl, fun q => absurd q (by decide), fun _ => C10_isText g3 g1 (fun p2 => ⟨_, rfl, fun q => absurd q (by decide), fun _ => ⟨fun q => ?_, fun q => ?_⟩⟩) (fun q => absurd (nvin ht (by omega)) q)⟩) (fun q => absurd (nvin hk (by omega)) q))
      · rw [hF.2.2.2.2.2.1]
        refine C_findSigns hF.1 hF.2.1 hF.2.2.2.2.1 (fun i hi => ⟨(hF.2.2.2.2.2.2 i hi).1, (hF.2.2.2.2.2.2 i hi).2.2.1⟩) fun σ' k1 k2 => ⟨rfl, ?_⟩
        have hc : Chg [0] σ σ' := k1.c0 fun _ => rfl
        have F' := hF.fr (hc.sm (by decide)); have T' := hT.fr (hc.sm (by decide)); have N' := hN.fr (hc.sm (by decide))
        have e4 : σ'.1 248 t = nI (tl t) := (T'.2.2.2.1 t ht).2.2.2.1
        have L : ∀ i, i ≤ tl t → KX10_dragged_52 37 σ' (fun r2 σ2 => r2 = some (.int v) ∧ Rel σ2) (nI k) (nI t) (nI w) (nI (cnt (fun i => decide (fitP (SS ft nF lk tc) tl nn pk k t i)) i)) (fst' (fun i => fitP (SS ft nF lk tc) tl nn pk k t i) i) (lst' (fun i => fitP (SS ft nF lk tc) tl nn pk k t i) i) (nI i) := by
          refine for_up ?_ ?_
          · refine BX10_dragged_52 ⟨nvin (by omega) (by omega), ?_⟩
            rw [cl (by omega), e4]
            refine ⟨fun _ => ⟨fun z => ⟨?_, hR.q hc⟩, fun z => ⟨fun z2 => ⟨?_, hR.q hc⟩, fun z2 => ⟨?_, hR.q hc⟩⟩⟩, fun z => absurd (nI_le (Nat.le_refl _) (by omega)) z⟩
            · rw [hv, if_pos ((nI_eq (b := 0) (by omega) (by omega)).mp z)]
            · rw [hv, if_neg (fun e => z (by rw [e]; rfl)), if_pos ((nI_eq (b := 1) (by omega) (by omega)).mp z2)]
            · rw [hv, if_neg (fun e => z (by rw [e]; rfl)), if_neg (fun e => z2 (by rw [e]; rfl))]
          · intro i hi ih
            have fo := fst_ok (fun i => fitP (SS ft nF lk tc) tl nn pk k t i) i (by omega)
            rw [cnt_s] at ih
            refine BX10_dragged_52 ⟨nvin (by omega) (by omega), ?_⟩
            rw [cl (by omega), e4, nI_1, nI_1]
            refine ⟨fun z => absurd z (nI_ge hi (by omega)), fun _ => M_fits F' T' k2 N' hk ht hi (fun ok => ⟨_, rfl, fun z => absurd z (by decide), fun _ => ⟨fun z => ?_, fun z => ?_⟩⟩) (fun nk => ⟨_, rfl, fun _ => ?_, fun z => absurd rfl z⟩)⟩
            · rw [if_pos (by simp [ok]), show fst' (fun i => fitP (SS ft nF lk tc) tl nn pk k t i) (i + 1) = nI i from if_pos ⟨z, ok⟩, show lst' (fun i => fitP (SS ft nF lk tc) tl nn pk k t i) (i + 1) = nI i from if_pos ok] at ih
              exact ih
            · rw [if_pos (by simp [ok]), show fst' (fun i => fitP (SS ft nF lk tc) tl nn pk k t i) (i + 1) = fst' (fun i => fitP (SS ft nF lk tc) tl nn pk k t i) i from if_neg (fun q => z q.1), show lst' (fun i => fitP (SS ft nF lk tc) tl nn pk k t i) (i + 1) = nI i from if_pos ok] at ih
              exact ih
            · rw [if_neg (by simp [nk]), show fst' (fun i => fitP (SS ft nF lk tc) tl nn pk k t i) (i + 1) = fst' (fun i => fitP (SS ft nF lk tc) tl nn pk k t i) i from if_neg (fun q => nk q.2), show lst' (fun i => fitP (SS ft nF lk tc) tl nn pk k t i) (i + 1) = lst' (fun i => fitP (SS ft nF lk tc) tl nn pk k t i) i from if_neg nk] at ih
              exact ih
        exact L 0 (by omega)
      · exfalso; apply q; rw [i_l, i_nI (by omega)]; omega
    have L : ∀ i, i ≤ tl t → KX4_drag_44 35 σ (fun r9 σ1 => ∃ v1, r9 = some (.int v1) ∧ ∃ v, some (Value.int v1) = some (.int v) ∧ EvM 40 mX10_dragged [.ref 245, .int (nI k), .int (nI t), .int (nI w)] σ1 (fun r2 σ2 => r2 = some (.int v) ∧ Rel σ2)) (nI k) (nI t) (nI w) (nI (cnt (fun i => decide (fitP (SS ft nF lk tc) tl nn pk k t i)) i)) (fst' (fun i => fitP (SS ft nF lk tc) tl nn pk k t i) i) (lst' (fun i => fitP (SS ft nF lk tc) tl nn pk k t i) i) (nI i) := by
      refine for_up ?_ ?_
      · refine BX4_drag_44 (C_lengthOf hT ht ⟨_, rfl, fun _ => ⟨fun z => ⟨_, rfl, _, rfl, val _ ?_⟩, fun z => ⟨fun z2 => ⟨_, rfl, _, rfl, val _ ?_⟩, fun z2 => ⟨_, rfl, _, rfl, val _ ?_⟩⟩⟩, fun z => absurd (nI_le (Nat.le_refl _) (by omega)) z⟩)
        · rw [if_pos ((nI_eq (b := 0) (by omega) (by omega)).mp z)]
        · rw [if_neg (fun e => z (by rw [e]; rfl)), if_pos ((nI_eq (b := 1) (by omega) (by omega)).mp z2)]
        · rw [if_neg (fun e => z (by rw [e]; rfl)), if_neg (fun e => z2 (by rw [e]; rfl))]
      · intro i hi ih
        have fo := fst_ok (fun i => fitP (SS ft nF lk tc) tl nn pk k t i) i (by omega)
        have cl' := cnt_le (fun i => decide (fitP (SS ft nF lk tc) tl nn pk k t i)) i
        rw [cnt_s] at ih
        refine BX4_drag_44 (C_lengthOf hT ht ⟨_, rfl, fun z => absurd z (nI_ge hi (by omega)), fun _ => C_fits hF hT hN hk ht hi (fun ok => ⟨_, rfl, fun z => absurd z (by decide), fun _ => ⟨fun z => ?_, fun z => ?_⟩⟩) (fun nk => ⟨_, rfl, fun _ => ?_, fun z => absurd rfl z⟩)⟩)
        · have z' := fo.mpr ((nI_eq (b := 0) (by omega) (by omega)).mp z)
          rw [nI_1, nI_1]
          rw [if_pos (by simp [ok]), show fst' (fun i => fitP (SS ft nF lk tc) tl nn pk k t i) (i + 1) = nI i from if_pos ⟨z', ok⟩, show lst' (fun i => fitP (SS ft nF lk tc) tl nn pk k t i) (i + 1) = nI i from if_pos ok] at ih
          exact ih
        · rw [nI_1, nI_1]
          rw [if_pos (by simp [ok]), show fst' (fun i => fitP (SS ft nF lk tc) tl nn pk k t i) (i + 1) = fst' (fun i => fitP (SS ft nF lk tc) tl nn pk k t i) i from if_neg (fun q => z (by rw [fo.mp q.1]; rfl)), show lst' (fun i => fitP (SS ft nF lk tc) tl nn pk k t i) (i + 1) = nI i from if_pos ok] at ih
          exact ih
        · rw [nI_1]
          rw [if_neg (by simp [nk]), show fst' (fun i => fitP (SS ft nF lk tc) tl nn pk k t i) (i + 1) = fst' (fun i => fitP (SS ft nF lk tc) tl nn pk k t i) i from if_neg (fun q => nk q.2), show lst' (fun i => fitP (SS ft nF lk tc) tl nn pk k t i) (i + 1) = lst' (fun i => fitP (SS ft nF lk tc) tl nn pk k t i) i from if_neg nk] at ih
          exact ih
    exact L 0 (by omega)
  · clear bad badC hR hF hT hN g2 g3 m2 m3; ((try simp (disch := (first | omega | ((try simp (disch := omega) only [i_nI, Int32.reduceToInt, i_l]) <;> omega))) only [i_le, i_lt, i_eq, Int32.reduceToInt, i_nI, i_l, li0, vp_in_iff, i_sub, i_add] at *) <;> omega)
