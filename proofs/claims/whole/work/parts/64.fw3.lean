section FW
variable {N nF lk nT : Nat} {ft : Nat → Nat} {tl : Nat → Nat} {tc : Nat → Nat → Int32} {σ : Sg} {Q : Option Value → Sg → Prop}
theorem M_words1 (hF : RF nF lk ft σ) (hT : RT nF nT tl tc σ) (hG : SG nF lk ft σ) {t : Nat} (ht : t < nT) (l : List Wd) (hl : l.length ≤ 84) (K : ∀ σ', Fr σ σ' → WS (l ++ wT (tc t) (tl t) t) σ' → KX10_findWords_15 N σ' Q (nI (t + 1))) : ∀ c, c ≤ tl t + 1 → ∀ σ', Fr σ σ' → WS (l ++ (wScan (tc t) (tl t) t c).2) σ' → KX10_findWords_30 N σ' Q (nI t) (nI (wScan (tc t) (tl t) t c).1) (b2 (noGap (tc t) (wScan (tc t) (tl t) t c).1 (c - (wScan (tc t) (tl t) t c).1))) (nI c) := by
  obtain ⟨g1, g2, g3, g4, g5, g6⟩ := id hT
  obtain ⟨a1, a2, a3, a4, a5⟩ := g4 t ht
  refine for_up ?_ ?_
  · intro σ' f w
    refine BX10_findWords_30 ⟨nvin (by omega) (by omega), ?_⟩
    rw [cl (by omega), f.1.1 248 t (by rw [show modOf 248 t = 2 from rfl]; decide), a4]
    refine ⟨fun _ => ?_, fun q => absurd (nI_lt (by omega) (by omega)) q⟩
    rw [nI_1]
    exact K σ' f w
  · intro c hc ih σ' f w
    have wl := wScan_le (cell := tc t) (n := tl t) (t := t) c
    have ll : (l ++ (wScan (tc t) (tl t) t c).2).length < 104 := by rw [List.length_append]; omega
    have w0 := w.1
    have c0 : ∀ (σ : Sg) (j : Nat) (x : Int32), (u1 σ 250 j x).1 245 7 = σ.1 245 7 := fun _ _ _ => by rw [u1_cell (by decide)]
    have c1 : ∀ (σ : Sg) (j : Nat) (x : Int32), (u1 σ 251 j x).1 245 7 = σ.1 245 7 := fun _ _ _ => by rw [u1_cell (by decide)]
    have c2 : ∀ (σ : Sg) (j : Nat) (x : Int32), (u1 σ 252 j x).1 245 7 = σ.1 245 7 := fun _ _ _ => by rw [u1_cell (by decide)]
    have c3 : ∀ (σ : Sg) (j : Nat) (x : Int32), (u1 σ 253 j x).1 245 7 = σ.1 245 7 := fun _ _ _ => by rw [u1_cell (by decide)]
    have nv := nvin ll (by omega)
    have cL := cl (n := (l ++ (wScan (tc t) (tl t) t c).2).length) (by omega)
    have BB : ¬ (c < tl t ∧ ¬ tc t c = -2) → (nI c ≤ nI (wScan (tc t) (tl t) t c).1 → KX10_findWords_30 N σ' Q (nI t) (nI (c + 1)) 1 (nI (c + 1))) ∧ (¬ nI c ≤ nI (wScan (tc t) (tl t) t c).1 → KX10_findWords_30 N (wAdd σ' (l ++ (wScan (tc t) (tl t) t c).2).length (nI t) (nI (wScan (tc t) (tl t) t c).1) (nI (c - (wScan (tc t) (tl t) t c).1)) (b2 (noGap (tc t) (wScan (tc t) (tl t) t c).1 (c - (wScan (tc t) (tl t) t c).1)))) Q (nI t) (nI (c + 1)) 1 (nI (c + 1))) := by
      intro hb
      have e : wScan (tc t) (tl t) t (c + 1) = (c + 1, if (wScan (tc t) (tl t) t c).1 < c then (wScan (tc t) (tl t) t c).2 ++ [(t, (wScan (tc t) (tl t) t c).1, c - (wScan (tc t) (tl t) t c).1, noGap (tc t) (wScan (tc t) (tl t) t c).1 (c - (wScan (tc t) (tl t) t c).1))] else (wScan (tc t) (tl t) t c).2) := if_neg hb
      rw [e] at ih
      have b1 : b2 (noGap (tc t) (c + 1) (c + 1 - (c + 1))) = 1 := by rw [Nat.sub_self]; rfl
      refine ⟨fun z => ?_, fun z => ?_⟩
      · have z1 := (nI_leI (by omega) (by omega)).mp z
        have := ih σ' f (by rw [if_neg (by omega)]; exact w)
        rw [b1] at this
        exact this
      · have z1 : (wScan (tc t) (tl t) t c).1 < c := by
          by_cases y : (wScan (tc t) (tl t) t c).1 < c
          · exact y
          · exact absurd (nI_le (by omega) (by omega)) z
        have := ih _ (f.add (l ++ (wScan (tc t) (tl t) t c).2).length (nI t) (nI (wScan (tc t) (tl t) t c).1) (nI (c - (wScan (tc t) (tl t) t c).1)) (b2 (noGap (tc t) (wScan (tc t) (tl t) t c).1 (c - (wScan (tc t) (tl t) t c).1)))) (by rw [if_pos z1, ← List.append_assoc]; exact w.add _ _ _ _)
        rw [b1] at this
        exact this
    refine BX10_findWords_30 ⟨nvin (by omega) (by omega), ?_⟩
    rw [cl (by omega), f.1.1 248 t (by rw [show modOf 248 t = 2 from rfl]; decide), a4]
    refine ⟨fun q => ?_, fun _ => ⟨nvin (by omega) (by omega), fun q => ?_, fun q => ?_⟩⟩
    · have := (nI_ltI (by omega) (by omega)).mp q; omega
    · have q1 := (nI_leI (by omega) (by omega)).mp q
      obtain ⟨B1, B2⟩ := BB (fun y => by omega)
      simp only [c0, c1, c2, c3, w0, cL, nI_1, nar_b2]
      refine ⟨B1, fun z => ⟨nv, nv, nv, nv, ?_⟩⟩
      rw [pk_sub wl.1]
      exact B2 z
    · have q1 : c < tl t := by
        by_cases y : c < tl t
        · exact y
        · exact absurd (nI_le (by omega) (by omega)) q
      refine M_at (hF.fr (f.1.sm (by decide))) (hT.fr (f.1.sm (by decide))) (fun x hx => by rw [f.2 x]; exact hG x hx) ht q1 ⟨_, rfl, ?_⟩
      simp only [c0, c1, c2, c3, w0, cL, nI_1, nar_b2]
      have st : ¬ tc t c = -2 → wScan (tc t) (tl t) t (c + 1) = wScan (tc t) (tl t) t c := fun y => if_pos ⟨q1, y⟩
      rcases sgv_ok (ft := ft) (lk := lk) (a5 c q1).1 hF.1 with ⟨v, v'⟩ | ⟨v, v'⟩ | ⟨fo, s, _, v', _, s3, _, v⟩
      · rw [st (by rw [v']; decide)] at ih
        have := ih σ' f w
        rw [noGap_s wl.1, v', show ((-1 : Int32) == -1) = true from rfl, show ∀ b : Bool, (b && !true) = false from fun b => by cases b <;> rfl] at this
        rw [v]
        exact ⟨fun z => absurd z (by decide), fun _ => ⟨fun _ => this, fun _ => ⟨fun _ => this, fun z => absurd rfl z⟩⟩⟩
      · obtain ⟨B1, B2⟩ := BB (fun y => y.2 v')
        rw [v]
        refine ⟨fun _ => ⟨fun z => ⟨fun y => absurd y (by decide), fun _ => B1 z⟩, fun z => ⟨nv, nv, nv, nv, fun y => absurd y (by decide), fun _ => ?_⟩⟩, fun z => absurd rfl z⟩
        rw [pk_sub wl.1]
        exact B2 z
      · have h24 := hF.1
        have nm : ∀ k : Nat, k < 24 → ¬ nI k = -1 ∧ ¬ nI k = -2 := by decide
        have n1 : ¬ nI s = -1 := (nm s (by omega)).1
        have n2 : ¬ nI s = -2 := (nm s (by omega)).2
        have m1 : ¬ tc t c = -1 := by rw [v']; exact (nm fo (by omega)).1
        have m2 : ¬ tc t c = -2 := by rw [v']; exact (nm fo (by omega)).2
        rw [st m2] at ih
        have := ih σ' f w
        rw [noGap_s wl.1, show (tc t c == -1) = false by simpa using m1, show ∀ b : Bool, (b && !false) = b from fun b => by cases b <;> rfl] at this
        rw [v]
        refine ⟨fun z => absurd z n2, fun _ => ⟨fun z => ?_, fun z => ⟨fun y => absurd y n1, fun _ => ?_⟩⟩⟩
        · rw [z] at this; exact this
        · cases hg : noGap (tc t) (wScan (tc t) (tl t) t c).1 (c - (wScan (tc t) (tl t) t c).1)
          · rw [hg] at z; exact absurd rfl z
          · rw [hg] at this; exact this
end FW
