/-! ===== words as the class finds them ===== -/
def WC (l : List Wd) (σ : Sg) : Prop := σ.1 5 9 = nI l.length ∧ ∀ w, w < l.length → σ.1 17 w = nI (wAt l w).1 ∧ σ.1 18 w = nI (wAt l w).2.1 ∧ σ.1 19 w = nI (wAt l w).2.2.1 ∧ σ.1 20 w = b2 (wAt l w).2.2.2
/-- only the class's words have changed -/
def FC (σ σ' : Sg) : Prop := (∀ a j, ¬ (a = 17 ∨ a = 18 ∨ a = 19 ∨ a = 20 ∨ (a = 5 ∧ j = 9)) → σ'.1 a j = σ.1 a j) ∧ σ'.2 = σ.2
theorem fc_mod {a j : Nat} (h : a = 17 ∨ a = 18 ∨ a = 19 ∨ a = 20 ∨ (a = 5 ∧ j = 9)) : modOf a j = 2 := by
  rcases h with rfl | rfl | rfl | rfl | ⟨rfl, rfl⟩ <;> rfl
theorem FC.rf {σ : Sg} : FC σ σ := ⟨fun _ _ _ => rfl, rfl⟩
theorem FC.u {σ σ' : Sg} {k j : Nat} {x : Int32} (h : FC σ σ') (hk : k = 17 ∨ k = 18 ∨ k = 19 ∨ k = 20 ∨ (k = 5 ∧ j = 9)) : FC σ (u1 σ' k j x) := by
  refine ⟨fun a b hab => ?_, h.2⟩
  rw [u1_other]
  · exact h.1 a b hab
  · rintro ⟨rfl, rfl⟩; exact hab hk
theorem FC.chg {σ σ' σ0 : Sg} {S : List Nat} (h : FC σ σ') (h2 : 2 ∈ S) (h0 : Chg S σ0 σ) : Chg S σ0 σ' := by
  refine ⟨fun a b hab => ?_, fun a b hab => ?_⟩
  · rw [h.1 a b (fun q => hab (by rw [fc_mod q]; exact h2))]
    exact h0.1 a b hab
  · rw [h.2]; exact h0.2 a b hab
/-- a text's cells as the class holds them -/
def T1 (nF nT t n : Nat) (cell : Nat → Int32) (σ : Sg) : Prop := nT ≤ 8 ∧ t < nT ∧ n ≤ 24 ∧ σ.1 5 4 = nI nT ∧ σ.1 16 t = nI n ∧ ∀ c, c < n → cOk nF (cell c) ∧ σ.1 (8 + t) c = cell c
theorem T1.fc {nF nT t n : Nat} {cell : Nat → Int32} {σ σ' : Sg} (f : FC σ σ') (h : T1 nF nT t n cell σ) : T1 nF nT t n cell σ' := by
  obtain ⟨a1, a2, a3, a4, a5, a6⟩ := h
  refine ⟨a1, a2, a3, ?_, ?_, fun c hc => ⟨(a6 c hc).1, ?_⟩⟩
  · rw [f.1 5 4 (by decide)]; exact a4
  · rw [f.1 16 t (by omega)]; exact a5
  · rw [f.1 (8 + t) c (by omega)]; exact (a6 c hc).2
section FWC
variable {N nF lk nT t n : Nat} {ft : Nat → Nat} {cell : Nat → Int32} {σ : Sg} {Q : Option Value → Sg → Prop}
theorem C_signAt1 (hF : RF nF lk ft σ) (hT : T1 nF nT t n cell σ) {c : Nat} (hc : c < 2147483648) (h : Q (some (.int (if c < n then sgv ft nF lk (cell c) else -2))) σ) : EvM (N + 1) mX7_signAt [.ref 5, .int (nI t), .int (nI c)] σ Q := by
  obtain ⟨g1, ht, g3, g2, a3, a5⟩ := id hT
  have hn := hF.1
  refine EX7_signAt ⟨fun q => absurd q (nI_pos (by omega)), fun _ => ⟨fun q => absurd q (by rw [g2]; exact nI_ge ht (by omega)), fun _ => ⟨fun q => absurd q (nI_pos (by omega)), fun _ => ⟨nvin (by omega) (by omega), ?_⟩⟩⟩⟩
  rw [cl (by omega), cl (by omega), a3]
  refine ⟨fun q => ?_, fun q => ?_⟩
  · have hct : c < n := (nI_ltI (by omega) (by omega)).mp q
    obtain ⟨b1, b2⟩ := a5 c hct
    rw [b2]
    rw [if_pos hct] at h
    refine ⟨nvin (by omega) (by omega), nvin (by omega) (by omega), fun q2 => ?_, fun q2 => ?_⟩
    · rcases b1 with e | e | ⟨f, hf, e⟩
      · rw [e] at q2; exact absurd q2 (by decide)
      · rw [e] at q2; exact absurd q2 (by decide)
      · rw [e] at h ⊢
        refine C_signOf hF hf ⟨_, rfl, ?_⟩
        unfold sgv at h
        rw [if_pos (nI_pos' (by omega)), cl (by omega)] at h
        exact h
    · unfold sgv at h
      rw [if_neg q2] at h
      exact h
  · have hct : ¬ c < n := fun z => q (nI_lt z (by omega))
    rw [if_neg hct] at h
    exact h
theorem C_addWord (hF : RF nF lk ft σ) (hT : T1 nF nT t n cell σ) {l : List Wd} (hW : WC l σ) (hl : l.length < 96) {s m : Nat} (hs : s + m ≤ n) (h : ∀ σ', FC σ σ' → WC (l ++ [(t, s, m, noGap cell s m)]) σ' → Q none σ') : EvM (N + 2) mX7_addWord [.ref 5, .int (nI t), .int (nI s), .int (nI m)] σ Q := by
  obtain ⟨w0, w1⟩ := id hW
  have n24 := hT.2.2.1
  have c17 : ∀ (σ : Sg) (j : Nat) (x : Int32), (u1 σ 17 j x).1 5 9 = σ.1 5 9 := fun _ _ _ => by rw [u1_cell (by decide)]
  have c18 : ∀ (σ : Sg) (j : Nat) (x : Int32), (u1 σ 18 j x).1 5 9 = σ.1 5 9 := fun _ _ _ => by rw [u1_cell (by decide)]
  have c19 : ∀ (σ : Sg) (j : Nat) (x : Int32), (u1 σ 19 j x).1 5 9 = σ.1 5 9 := fun _ _ _ => by rw [u1_cell (by decide)]
  have cL : (nI l.length).toNatClampNeg = l.length := cl (by omega)
  have nv : vp_in (nI l.length) 96 := nvin hl (by omega)
  have L : ∀ i, i ≤ m → ∀ σ', FC σ σ' → σ'.1 5 9 = nI l.length → (∀ w, w < l.length → σ'.1 17 w = σ.1 17 w ∧ σ'.1 18 w = σ.1 18 w ∧ σ'.1 19 w = σ.1 19 w ∧ σ'.1 20 w = σ.1 20 w) → σ'.1 17 l.length = nI t → σ'.1 18 l.length = nI s → σ'.1 19 l.length = nI m → σ'.1 20 l.length = b2 (noGap cell s i) → KX7_addWord_53 N σ' Q (nI t) (nI s) (nI m) (nI i) := by
    refine for_up ?_ ?_
    · intro σ' f e9 old r1 r2 r3 r4
      refine BX7_addWord_53 ⟨fun _ => ?_, fun q => absurd (nI_le (Nat.le_refl _) (by omega)) q⟩
      rw [e9, nI_1]
      refine h _ (f.u (by omega)) ⟨?_, fun w hw => ?_⟩
      · rw [u1_same, List.length_append]; rfl
      · rw [List.length_append] at hw
        have hw2 : w < l.length + 1 := hw
        rw [u1_cell (by decide), u1_cell (by decide), u1_cell (by decide), u1_cell (by decide)]
        by_cases e : w = l.length
        · rw [e, r1, r2, r3, r4, show wAt (l ++ [(t, s, m, noGap cell s m)]) l.length = (t, s, m, noGap cell s m) from wAt_right (w := 0)]
          exact ⟨rfl, rfl, rfl, rfl⟩
        · obtain ⟨o1, o2, o3, o4⟩ := old w (by omega)
          rw [o1, o2, o3, o4, wAt_left (by omega)]
          exact w1 w (by omega)
    · intro i hi ih σ' f e9 old r1 r2 r3 r4
      have c0 : ∀ a j, modOf a j = 1 → ¬ (a = 17 ∨ a = 18 ∨ a = 19 ∨ a = 20 ∨ (a = 5 ∧ j = 9)) := by
        intro a j e q
        rw [fc_mod q] at e; exact absurd e (by decide)
      have hF' : RF nF lk ft σ' := hF.fr ⟨fun a j e => f.1 a j (c0 a j e), fun a j _ => by rw [f.2]⟩
      have hT' := hT.fc f
      have co := (hT.2.2.2.2.2 (s + i) (by omega)).1
      obtain ⟨k1, k2, k3⟩ := sgv_neg (ft := ft) (lk := lk) co hF.1
      refine BX7_addWord_53 ⟨fun q => absurd q (nI_ge hi (by omega)), fun _ => ?_⟩
      rw [nI_add]
      refine C_signAt1 hF' hT' (by omega) ⟨_, rfl, ?_⟩
      rw [if_pos (by omega), e9, nI_1, cL, show vp_nar .boolean 0 = b2 false from nar_b2 false]
      have ng : noGap cell s (i + 1) = (noGap cell s i && !(cell (s + i) == -1)) := rfl
      refine ⟨fun q => ⟨nv, ih _ (f.u (by omega)) ?_ (fun w hw => ?_) ?_ ?_ ?_ ?_⟩, fun q => ih σ' f e9 old r1 r2 r3 ?_⟩
      · rw [u1_cell (by decide)]; exact e9
      · rw [u1_cell (by decide), u1_cell (by decide), u1_cell (by decide), u1_slot (by omega)]; exact old w hw
      · rw [u1_cell (by decide)]; exact r1
      · rw [u1_cell (by decide)]; exact r2
      · rw [u1_cell (by decide)]; exact r3
      · rw [u1_same, ng, k2.mp q]
        cases noGap cell s i <;> rfl
      · have : ¬ cell (s + i) = -1 := fun z => q (k2.mpr z)
        rw [r4, ng, show (cell (s + i) == -1) = false by simpa using this]
        cases noGap cell s i <;> rfl
  refine EX7_addWord ⟨fun _ => ?_, fun q => absurd (nI_lt (b := 96) hl (by omega)) (by rw [w0] at q; exact q)⟩
  simp only [c17, c18, c19, w0, cL]
  refine ⟨nv, nv, nv, nv, ?_⟩
  rw [show vp_nar .boolean 1 = b2 true from nar_b2 true]
  refine L 0 (by omega) _ ((((FC.rf.u (by omega)).u (by omega)).u (by omega)).u (by omega)) ?_ (fun w hw => ?_) ?_ ?_ ?_ ?_
  · rw [u1_cell (by decide), u1_cell (by decide), u1_cell (by decide), u1_cell (by decide)]; exact w0
  · refine ⟨?_, ?_, ?_, ?_⟩
    · rw [u1_cell (by decide), u1_cell (by decide), u1_cell (by decide), u1_slot (by omega)]
    · rw [u1_cell (by decide), u1_cell (by decide), u1_slot (by omega), u1_cell (by decide)]
    · rw [u1_cell (by decide), u1_slot (by omega), u1_cell (by decide), u1_cell (by decide)]
    · rw [u1_slot (by omega), u1_cell (by decide), u1_cell (by decide), u1_cell (by decide)]
  · rw [u1_cell (by decide), u1_cell (by decide), u1_cell (by decide), u1_same]
  · rw [u1_cell (by decide), u1_cell (by decide), u1_same]
  · rw [u1_cell (by decide), u1_same]
  · rw [u1_same]; rfl
theorem FC.rF {σ' : Sg} (f : FC σ σ') (hF : RF nF lk ft σ) : RF nF lk ft σ' := by
  have c0 : ∀ a j, modOf a j = 1 → ¬ (a = 17 ∨ a = 18 ∨ a = 19 ∨ a = 20 ∨ (a = 5 ∧ j = 9)) := by
    intro a j e q
    rw [fc_mod q] at e; exact absurd e (by decide)
  exact hF.fr ⟨fun a j e => f.1 a j (c0 a j e), fun a j _ => by rw [f.2]⟩
theorem FC.tr {σ' σ'' : Sg} (f : FC σ σ') (g : FC σ' σ'') : FC σ σ'' := ⟨fun a j h => (g.1 a j h).trans (f.1 a j h), g.2.trans f.2⟩
theorem C_findWords (hF : RF nF lk ft σ) (hT : T1 nF nT t n cell σ) {l : List Wd} (hW : WC l σ) (hl : l.length ≤ 84) (h : ∀ σ', FC σ σ' → WC (l ++ wT cell n t) σ' → Q none σ') : EvM (N + 3) mX7_findWords [.ref 5, .int (nI t)] σ Q := by
  obtain ⟨g1, ht, n24, g4, g5, g6⟩ := id hT
  have L : ∀ c, c ≤ n + 1 → ∀ σ', FC σ σ' → WC (l ++ (wScan cell n t c).2) σ' → KX7_findWords_4 N σ' Q (nI t) (nI (wScan cell n t c).1) (nI c) := by
    refine for_up ?_ ?_
    · intro σ' f w
      refine BX7_findWords_4 ⟨nvin (by omega) (by omega), ?_⟩
      rw [cl (by omega), f.1 16 t (by omega), g5]
      exact ⟨fun _ => h σ' f w, fun q => absurd (nI_lt (by omega) (by omega)) q⟩
    · intro c hc ih σ' f w
      have wl := wScan_le (cell := cell) (n := n) (t := t) c
      have hF' := f.rF hF
      have hT' := hT.fc f
      refine BX7_findWords_4 ⟨nvin (by omega) (by omega), ?_⟩
      rw [cl (by omega), f.1 16 t (by omega), g5]
      refine ⟨fun q => ?_, fun _ => C_signAt1 hF' hT' (by omega) ⟨_, rfl, fun q => ?_, fun q => ?_⟩⟩
      · have := (nI_ltI (by omega) (by omega)).mp q; omega
      · have hb : ¬ (c < n ∧ ¬ cell c = -2) := fun y => by
          rw [if_pos y.1] at q
          exact y.2 ((sgv_neg (ft := ft) (lk := lk) (g6 c y.1).1 hF.1).2.2.mp q)
        have e : wScan cell n t (c + 1) = (c + 1, if (wScan cell n t c).1 < c then (wScan cell n t c).2 ++ [(t, (wScan cell n t c).1, c - (wScan cell n t c).1, noGap cell (wScan cell n t c).1 (c - (wScan cell n t c).1))] else (wScan cell n t c).2) := if_neg hb
        rw [e] at ih
        rw [nI_1]
        refine ⟨fun z => ?_, fun z => ?_⟩
        · have z1 := (nI_leI (by omega) (by omega)).mp z
          exact ih σ' f (by rw [if_neg (by omega)]; exact w)
        · have z1 : (wScan cell n t c).1 < c := by
            by_cases y : (wScan cell n t c).1 < c
            · exact y
            · exact absurd (nI_le (by omega) (by omega)) z
          have ll : (l ++ (wScan cell n t c).2).length < 96 := by rw [List.length_append]; omega
          rw [pk_sub (by omega)]
          refine C_addWord hF' hT' w ll (by omega) (fun σ2 f2 w2 => ⟨rfl, ih σ2 (f.tr f2) ?_⟩)
          rw [if_pos z1, ← List.append_assoc]
          exact w2
      · have e : wScan cell n t (c + 1) = wScan cell n t c := by
          refine if_pos ?_
          by_cases y : c < n
          · refine ⟨y, fun z => q ?_⟩
            rw [if_pos y]
            exact (sgv_neg (ft := ft) (lk := lk) (g6 c y).1 hF.1).2.2.mpr z
          · rw [if_neg y] at q; exact absurd rfl q
        rw [e] at ih
        rw [nI_1]
        exact ih σ' f w
  exact EX7_findWords (L 0 (by omega) σ FC.rf (by rw [show (wScan cell n t 0).2 = [] from rfl, List.append_nil]; exact hW))
end FWC
