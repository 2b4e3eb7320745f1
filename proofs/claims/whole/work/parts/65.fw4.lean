section FW2
variable {N nF lk nT : Nat} {ft : Nat → Nat} {tl : Nat → Nat} {tc : Nat → Nat → Int32} {σ : Sg} {Q : Option Value → Sg → Prop}
theorem M_findWords (hF : RF nF lk ft σ) (hT : RT nF nT tl tc σ) (h : ∀ σ', Chg [0] σ σ' → SG nF lk ft σ' → WS (wL tl tc nT) σ' → Q none σ') : EvM (N + 2) mX10_findWords [.ref 245] σ Q := by
  obtain ⟨f1, f2, f3, f4, f5, f6, f7⟩ := id hF
  obtain ⟨g1, g2, g3, g4, g5, g6⟩ := id hT
  refine EX10_findWords ?_
  rw [f6]
  refine C_findSigns f1 f2 f5 (fun i hi => ⟨(f7 i hi).1, (f7 i hi).2.2.1⟩) (fun σ1 r s => ⟨rfl, ?_⟩)
  have cc : Chg [0] σ (u1 σ1 245 7 0) := (r.chg (fun j => by rw [show modOf 247 j = 0 from rfl]; decide) Chg.rf).u1 (by decide)
  have hG : SG nF lk ft (u1 σ1 245 7 0) := fun x hx => by rw [u1_cell (by decide)]; exact s x hx
  have w0 : WS (wL tl tc 0) (u1 σ1 245 7 0) := ⟨u1_same, fun w hw => absurd hw (Nat.not_lt_zero w)⟩
  generalize u1 σ1 245 7 0 = σ2 at cc hG w0
  have hF2 := hF.fr (cc.sm (by decide))
  have hT2 := hT.fr (cc.sm (by decide))
  have L : ∀ t, t ≤ nT → ∀ σ', Fr σ2 σ' → WS (wL tl tc t) σ' → KX10_findWords_15 N σ' Q (nI t) := by
    refine for_up ?_ ?_
    · intro σ' f w
      refine BX10_findWords_15 ⟨fun _ => h σ' ?_ (fun x hx => by rw [f.2 x]; exact hG x hx) w, fun q => absurd ?_ q⟩
      · exact ⟨fun a b hab => by rw [f.1.1 a b hab]; exact cc.1 a b hab, fun a b hab => by rw [f.1.2 a b hab]; exact cc.2 a b hab⟩
      · rw [f.1.1 245 4 (by decide), hT2.2.2.1]; exact nI_le (Nat.le_refl _) (by omega)
    · intro t ht ih σ' f w
      refine BX10_findWords_15 ⟨fun q => absurd q (by rw [f.1.1 245 4 (by decide), hT2.2.2.1]; exact nI_ge ht (by omega)), fun _ => ?_⟩
      have ll := wL_len (tl := tl) (tc := tc) t (fun x hx => (g4 x (by omega)).2.1)
      exact M_words1 hF2 hT2 hG ht (wL tl tc t) (by omega) ih 0 (by omega) σ' f (by rw [show (wScan (tc t) (tl t) t 0).2 = [] from rfl, List.append_nil]; exact w)
  exact L 0 (by omega) σ2 ⟨Chg.rf, fun _ => rfl⟩ w0
end FW2
