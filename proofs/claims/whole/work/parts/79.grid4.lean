/-! ===== grid ===== -/
section GO
variable {nF lk nT : Nat} {ft : Nat → Nat} {tl : Nat → Nat} {tc : Nat → Nat → Int32} {ap : Nat → Nat → Nat} {σ : Sg}
theorem akV_sign (hF : RF nF lk ft σ) (hT : RT nF nT tl tc σ) {s u : Nat} (h : 0 < akV ft nF lk tl tc nT s u) : rep ft nF lk s = s ∧ rep ft nF lk u = u := by
  have ends : ∀ f a, EE (akS ft nF lk tl tc nT) (akP tl tc nT) (akL ft nF lk tl tc nT) (wL tl tc nT).length f a = true → rep ft nF lk a = a := by
    intro f a e
    obtain ⟨w, hw, p, _, q⟩ := (EE_iff _).mp e
    have fl := (akP_iff.mp p).1
    have k2 := (hT.wok hw).1.2.1
    obtain ⟨x, x1, x2, x3⟩ := wS_sign (lk := lk) hF hT hw (i := (wAt (wL tl tc nT) w).2.2.1 - 1) (by omega) fl
    have n24 := hF.1
    unfold akL at q
    rw [x3, cl (by omega)] at q
    rw [← q]; exact x2
  unfold akV at h
  by_cases e : s = u
  · rw [if_pos e] at h; exact absurd h (Nat.lt_irrefl _)
  · rw [if_neg e] at h
    unfold Aa at h
    have : ∃ f, (EE (akS ft nF lk tl tc nT) (akP tl tc nT) (akL ft nF lk tl tc nT) (wL tl tc nT).length f s && EE (akS ft nF lk tl tc nT) (akP tl tc nT) (akL ft nF lk tl tc nT) (wL tl tc nT).length f u) = true := by
      by_cases z : ∃ f, (EE (akS ft nF lk tl tc nT) (akP tl tc nT) (akL ft nF lk tl tc nT) (wL tl tc nT).length f s && EE (akS ft nF lk tl tc nT) (akP tl tc nT) (akL ft nF lk tl tc nT) (wL tl tc nT).length f u) = true
      · exact z
      · rw [cnt_0 96 (fun f _ => by
          cases y : (EE (akS ft nF lk tl tc nT) (akP tl tc nT) (akL ft nF lk tl tc nT) (wL tl tc nT).length f s && EE (akS ft nF lk tl tc nT) (akP tl tc nT) (akL ft nF lk tl tc nT) (wL tl tc nT).length f u)
          · rfl
          · exact absurd ⟨f, y⟩ z)] at h
        exact absurd h (Nat.lt_irrefl _)
    obtain ⟨f, hf⟩ := this
    rw [Bool.and_eq_true] at hf
    exact ⟨ends f s hf.1, ends f u hf.2⟩
theorem apV_sign {s u : Nat} (h : 0 < apV ap ft nF lk s u) : rep ft nF lk s = s ∧ rep ft nF lk u = u := by
  obtain ⟨⟨i, _, h1⟩, j, _, h2⟩ := apO_pos nF h
  rw [← h1, ← h2]
  exact ⟨rep_rep, rep_rep⟩
end GO
theorem O_grid {σ : Sg} (hR : Rel σ) (a b : Int32) : OPi mX9_grid mX10_grid [.int a, .int b] σ := by
  obtain ⟨nF, lk, ft, nT, tl, tc, hF, hT⟩ := hR.1
  obtain ⟨ap, hK⟩ := hR.2.1
  have n24 := hF.1
  have nT8 := hT.1
  have hl := wL_len (tl := tl) (tc := tc) nT (fun t ht => (hT.2.2.2.1 t ht).2.1)
  have e1 : (1 : Int32).toInt = 1 := rfl
  have e3 : (3 : Int32).toInt = 3 := rfl
  have bad : ¬ (1 ≤ a.toInt ∧ a.toInt ≤ 3) → ∃ v, some (Value.int (-1)) = some (.int v) ∧ EvM 40 mX10_grid [.ref 245, .int a, .int b] σ (fun r2 σ2 => r2 = some (.int v) ∧ Rel σ2) := fun hb =>
    ⟨_, rfl, EX10_grid ⟨fun z => absurd (by rw [i_l] at z; exact z) hb, fun _ => ⟨rfl, hR⟩⟩⟩
  refine EX9_grid ⟨fun q => bad (fun z => ?_), fun q => ⟨fun q2 => bad (fun z => ?_), fun q2 => ?_⟩⟩
  · rw [i_lt, e1] at q; omega
  · rw [i_lt, e3] at q2; omega
  rw [i_lt, e1] at q
  rw [i_lt, e3] at q2
  obtain ⟨R, hRR, rfl⟩ : ∃ R : Nat, (1 ≤ R ∧ R ≤ 3) ∧ a = nI R := ⟨a.toInt.toNat, by omega, i_of (by omega) (by omega)⟩
  generalize hAK : akV ft nF lk tl tc nT = AK
  generalize hAP : apV ap ft nF lk = AP
  have hsg : ∀ s u, ¬ s = u → (0 < AK s u ∨ 0 < apV ap ft nF lk s u) → rep ft nF lk s = s ∧ rep ft nF lk u = u := by
    intro s u _ z
    rcases z with z | z
    · rw [← hAK] at z; exact akV_sign hF hT z
    · exact apV_sign z
  generalize hl0 : stL (bdB AK AP nF) nF = l
  have l8 : l.length ≤ 8 := by rw [← hl0]; exact stL_le nF
  have lt := stL_lt (bd := bdB AK AP nF) nF
  rw [hl0] at lt
  have AP9 : ∀ x y, AP x y ≤ 9 := fun x y => by rw [← hAP]; exact apV_le n24 hK
  have AK96 : ∀ x y, AK x y ≤ 96 := fun x y => by rw [← hAK]; exact akV_le
  generalize hB : bst (qG AK AP l) R l.length (R ^ l.length) = B
  have hb1 : B.1 < 1073741824 := by
    rw [← hB]
    exact bst_le (fun c => by have := tqp_lt (qv := qG AK AP l) (R := R) l8 qG_le c; omega) _ (Nat.pow_pos (by omega))
  -- the reference
  have M : ∀ (σ1 : Sg) (v : Int32), Chg [0] σ σ1 → (b = 0 → v = nI B.1) → (b = 1 → v = nI l.length) → (∀ i, i < l.length → b = nI (10 + i) → v = nI (l.getD i 0)) → (∀ i, i < l.length → b = nI (30 + i) → v = nI (rwD R l.length B.2 i)) → (¬ b = 0 → ¬ b = 1 → ¬ (∃ i, i < l.length ∧ b = nI (10 + i)) → ¬ (∃ i, i < l.length ∧ b = nI (30 + i)) → v = -1) → EvM 40 mX10_grid [.ref 245, .int (nI R), .int b] σ1 (fun r2 σ2 => r2 = some (.int v) ∧ Rel σ2) := by
    intro σ1 v c k0 k1 k10 k30 kb
    have hF1 := hF.fr (c.sm (by decide))
    have hT1 := hT.fr (c.sm (by decide))
    have hK1 := hK.fr (c.sm (by decide))
    refine EX10_grid ⟨fun _ => EX10_findGrid (EX10_findGridSigns (M_findAkins hF1 hT1 (fun σ2 c2 g2 w2 a2 => ⟨rfl, ?_⟩))), fun z => absurd (by rw [i_l, i_nI (by omega)]; omega) z⟩
    have hM : MR nF lk ft ap AK σ2 := ⟨hF1.fr (c2.sm (by decide)), g2, hK1.fr (c2.sm (by decide)), fun x hx y hy => ⟨AK96 x y, fun ne => by
      rw [a2 x hx y hy, ← AB akE ne _ (by omega), ← hAK]
      unfold akV
      rw [if_neg ne]⟩⟩
    refine M_seats hM hsg (fun σ3 c3 s3 e3 => ⟨rfl, ?_⟩)
    rw [hAP, hl0] at s3 e3
    have hM3 := hM.m c3
    refine M_search' (AK := AK) (AP := AP) (l := l) ⟨l8, lt.2, fun i hi => by have := lt.1 i hi; omega, s3, hM3.2.2.2, AP9, e3⟩ hRR (fun σ4 c4 r4 => ⟨_, rfl, ?_⟩)
    rw [hB] at r4 ⊢
    have s4 : SM l σ4 := ⟨by rw [c4.1 245 (by decide) (by decide)]; exact s3.1, fun i hi => by rw [c4.1 257 (by decide) (by decide)]; exact s3.2 i hi⟩
    have R4 : Rel σ4 := by
      refine hR.q (c.tr (c2.tr (c3.chg.tr ⟨fun x j e => c4.1 x ?_ ?_ j, fun x j _ => by rw [c4.2]⟩)))
      · intro z; subst z; exact e List.mem_cons_self
      · intro z; subst z; exact e List.mem_cons_self
    rw [s4.1, show (9 : Int32) = nI 9 from rfl, show (29 : Int32) = nI 29 from rfl, nI_add, nI_add, i_l, i_l, i_l, i_nI (show 9 + l.length < 2147483648 by omega), i_nI (show 29 + l.length < 2147483648 by omega)]
    refine ⟨fun z => ⟨by rw [k0 z], R4⟩, fun z0 => ⟨fun z => ⟨by rw [k1 z], R4⟩, fun z1 => ⟨fun z => ?_, fun z2 => ⟨fun z => ?_, fun z3 => ⟨by rw [kb z0 z1 (fun ⟨i, hi, e⟩ => z2 (by rw [e, i_nI (by omega)]; omega)) (fun ⟨i, hi, e⟩ => z3 (by rw [e, i_nI (by omega)]; omega))], R4⟩⟩⟩⟩⟩
    · obtain ⟨i, hi, e⟩ : ∃ i : Nat, i < l.length ∧ b = nI (10 + i) := ⟨b.toInt.toNat - 10, by omega, i_of (by omega) (by omega)⟩
      have := k10 i hi e
      rw [e, show (10 : Int32) = nI 10 from rfl, pk_sub (by omega), show 10 + i - 10 = i by omega, cl (by omega), s4.2 i hi]
      exact ⟨nvin (by omega) (by omega), by rw [this], R4⟩
    · obtain ⟨i, hi, e⟩ : ∃ i : Nat, i < l.length ∧ b = nI (30 + i) := ⟨b.toInt.toNat - 30, by omega, i_of (by omega) (by omega)⟩
      have := k30 i hi e
      rw [e, show (30 : Int32) = nI 30 from rfl, pk_sub (by omega), show 30 + i - 30 = i by omega, cl (by omega), r4 i hi]
      exact ⟨nvin (by omega) (by omega), by rw [this], R4⟩
  -- the class
  refine EX3_tell (C_gather hF hT (fun σ1 r1 G1 => ⟨rfl, C_measureAkin G1 (fun σ2 c2 t2 => ⟨rfl, ?_⟩)⟩))
  have d1 : Chg [0] σ σ1 := r1.c0 (fun _ => rfl)
  have d2 : Chg [0] σ1 σ2 := c2.chg (fun k j h1 h2 => by obtain ⟨i, rfl⟩ : ∃ i, k = 49 + i := ⟨k - 49, by omega⟩; rw [modr_49 (by omega)]; decide)
  have d12 := d1.tr d2
  refine C_measureApart (hF.fr (d12.sm (by decide))) (hK.fr (d12.sm (by decide))) (fun σ3 c3 t3 => ⟨rfl, ?_⟩)
  have d3 : Chg [0] σ2 σ3 := c3.chg (fun k j h1 h2 => by obtain ⟨i, rfl⟩ : ∃ i, k = 74 + i := ⟨k - 74, by omega⟩; rw [modr_74 (by omega)]; decide)
  have d13 := d12.tr d3
  have gt3 : GTc AK AP σ3 := ⟨fun x hx y hy => ⟨AK96 x y, by rw [c3.1 (49 + x) (by omega), t2 x hx y hy, hAK]⟩, fun x hx y hy => ⟨AP9 x y, by rw [t3 x hx y hy, ← hAP]; rfl⟩⟩
  have hF3 := hF.fr (d13.sm (by decide))
  refine C_seatBound (AK := AK) (AP := AP) n24 hF3.2.2.1 gt3 (fun σ4 c4 s4 => ⟨rfl, ?_⟩)
  rw [hl0] at s4
  have d4 : Chg [0] σ3 σ4 := ⟨fun x j e => c4.1 x (fun z => e (by subst z; exact List.mem_cons_self)) (fun z => e (by subst z; exact List.mem_cons_self)) j, fun x j _ => by rw [c4.2]⟩
  have d14 := d13.tr d4
  have sr : SR AK AP l (u1 σ4 22 10 1073741824) := by
    refine ⟨⟨fun x hx y hy => ⟨AK96 x y, ?_⟩, fun x hx y hy => ⟨AP9 x y, ?_⟩⟩, ⟨?_, fun i hi => ?_⟩, l8, fun i hi => by have := lt.1 i hi; omega⟩
    · rw [u1_cell (by omega), c4.1 (49 + x) (by omega) (by omega)]; exact (gt3.1 x hx y hy).2
    · rw [u1_cell (by omega), c4.1 (74 + x) (by omega) (by omega)]; exact (gt3.2 x hx y hy).2
    · rw [u1_slot (by decide)]; exact s4.1
    · rw [u1_cell (by decide)]; exact s4.2 i hi
  have S := C_seat sr hRR l.length (37 - l.length) 0 0 (u1 σ4 22 10 1073741824) (fun r9 σ5 => r9 = none ∧ ((b = 0 → (fun r9 σ1 => ∃ v1, r9 = some (Value.int v1) ∧ (fun r9 σ1 => ∃ v, r9 = some (Value.int v) ∧ EvM 40 mX10_grid [.ref 245, .int (nI R), .int b] σ1 (fun r2 σ2 => r2 = some (.int v) ∧ Rel σ2)) (some (.int v1)) σ1) (some (.int (σ5.1 22 10))) σ5) ∧ (¬ b = 0 → (b = 1 → (fun r9 σ1 => ∃ v1, r9 = some (Value.int v1) ∧ (fun r9 σ1 => ∃ v, r9 = some (Value.int v) ∧ EvM 40 mX10_grid [.ref 245, .int (nI R), .int b] σ1 (fun r2 σ2 => r2 = some (.int v) ∧ Rel σ2)) (some (.int v1)) σ1) (some (.int (σ5.1 22 9))) σ5) ∧ (¬ b = 1 → (b < 10 → (b < 30 → (fun r9 σ1 => ∃ v1, r9 = some (Value.int v1) ∧ (fun r9 σ1 => ∃ v, r9 = some (Value.int v) ∧ EvM 40 mX10_grid [.ref 245, .int (nI R), .int b] σ1 (fun r2 σ2 => r2 = some (.int v) ∧ Rel σ2)) (some (.int v1)) σ1) (some (.int (-1))) σ5) ∧ (¬ b < 30 → ((30 + (σ5.1 22 9)) ≤ b → (fun r9 σ1 => ∃ v1, r9 = some (Value.int v1) ∧ (fun r9 σ1 => ∃ v, r9 = some (Value.int v) ∧ EvM 40 mX10_grid [.ref 245, .int (nI R), .int b] σ1 (fun r2 σ2 => r2 = some (.int v) ∧ Rel σ2)) (some (.int v1)) σ1) (some (.int (-1))) σ5) ∧ (¬ (30 + (σ5.1 22 9)) ≤ b → vp_in (b - 30) 8 ∧ ((fun r9 σ1 => ∃ v1, r9 = some (Value.int v1) ∧ (fun r9 σ1 => ∃ v, r9 = some (Value.int v) ∧ EvM 40 mX10_grid [.ref 245, .int (nI R), .int b] σ1 (fun r2 σ2 => r2 = some (.int v) ∧ Rel σ2)) (some (.int v1)) σ1) (some (.int (σ5.1 101 (b - 30).toNatClampNeg))) σ5)))) ∧ (¬ b < 10 → ((10 + (σ5.1 22 9)) ≤ b → (b < 30 → (fun r9 σ1 => ∃ v1, r9 = some (Value.int v1) ∧ (fun r9 σ1 => ∃ v, r9 = some (Value.int v) ∧ EvM 40 mX10_grid [.ref 245, .int (nI R), .int b] σ1 (fun r2 σ2 => r2 = some (.int v) ∧ Rel σ2)) (some (.int v1)) σ1) (some (.int (-1))) σ5) ∧ (¬ b < 30 → ((30 + (σ5.1 22 9)) ≤ b → (fun r9 σ1 => ∃ v1, r9 = some (Value.int v1) ∧ (fun r9 σ1 => ∃ v, r9 = some (Value.int v) ∧ EvM 40 mX10_grid [.ref 245, .int (nI R), .int b] σ1 (fun r2 σ2 => r2 = some (.int v) ∧ Rel σ2)) (some (.int v1)) σ1) (some (.int (-1))) σ5) ∧ (¬ (30 + (σ5.1 22 9)) ≤ b → vp_in (b - 30) 8 ∧ ((fun r9 σ1 => ∃ v1, r9 = some (Value.int v1) ∧ (fun r9 σ1 => ∃ v, r9 = some (Value.int v) ∧ EvM 40 mX10_grid [.ref 245, .int (nI R), .int b] σ1 (fun r2 σ2 => r2 = some (.int v) ∧ Rel σ2)) (some (.int v1)) σ1) (some (.int (σ5.1 101 (b - 30).toNatClampNeg))) σ5)))) ∧ (¬ (10 + (σ5.1 22 9)) ≤ b → vp_in (b - 10) 8 ∧ ((fun r9 σ1 => ∃ v1, r9 = some (Value.int v1) ∧ (fun r9 σ1 => ∃ v, r9 = some (Value.int v) ∧ EvM 40 mX10_grid [.ref 245, .int (nI R), .int b] σ1 (fun r2 σ2 => r2 = some (.int v) ∧ Rel σ2)) (some (.int v1)) σ1) (some (.int (σ5.1 99 (b - 10).toNatClampNeg))) σ5)))))))
    (by omega) ChS.rf ⟨by rw [u1_same, Nat.zero_mul]; rfl, fun z => by rw [Nat.zero_mul] at z; exact absurd z (Nat.lt_irrefl _)⟩ (fun j hj => absurd hj (Nat.not_lt_zero j)) (fun σ5 c5 b5 _ => ⟨rfl, ?_⟩)
  · rw [show 37 - l.length + l.length + 1 = 38 by omega] at S
    exact S
  · rw [show (0 + 1) * R ^ l.length = R ^ l.length by rw [Nat.zero_add, Nat.one_mul]] at b5
    unfold BS at b5
    rw [hB] at b5
    have b6 := b5.2 (Nat.pow_pos (by omega))
    have s5 : SC l σ5 := (sr.s c5).2.1
    have d5 : Chg [0] σ σ5 := by
      refine d14.tr ⟨fun x j e => ?_, fun x j _ => by rw [c5.2.2]; rfl⟩
      have n1 : x ≠ 22 := fun z => e (by subst z; exact List.mem_cons_self)
      rw [c5.1 x n1 (fun z => e (by subst z; exact List.mem_cons_self)) (fun z => e (by subst z; exact List.mem_cons_self)), u1_cell n1]
    have go : ∀ v : Int32, (b = 0 → v = nI B.1) → (b = 1 → v = nI l.length) → (∀ i, i < l.length → b = nI (10 + i) → v = nI (l.getD i 0)) → (∀ i, i < l.length → b = nI (30 + i) → v = nI (rwD R l.length B.2 i)) → (¬ b = 0 → ¬ b = 1 → ¬ (∃ i, i < l.length ∧ b = nI (10 + i)) → ¬ (∃ i, i < l.length ∧ b = nI (30 + i)) → v = -1) → ∃ v1, some (Value.int v) = some (Value.int v1) ∧ ∃ v2, some (Value.int v1) = some (Value.int v2) ∧ EvM 40 mX10_grid [.ref 245, .int (nI R), .int b] σ5 (fun r2 σ2 => r2 = some (.int v2) ∧ Rel σ2) := fun v q0 q1 q10 q30 qb => ⟨_, rfl, _, rfl, M σ5 v d5 q0 q1 q10 q30 qb⟩
    have e10 : (10 : Int32).toInt = 10 := rfl
    have e30 : (30 : Int32).toInt = 30 := rfl
    have no : ∀ p q : Nat, p < 100 → q < 100 → ¬ p = q → ∀ {P : Prop}, b = nI p → b = nI q → P := fun p q h1 h2 h3 P h4 h5 => absurd ((nI_eq (by omega) (by omega)).mp (h4.symm.trans h5)) h3
    have f30 : ∀ i, i < l.length → b = nI (30 + i) → vp_in (b - 30) 8 ∧ ∃ v1, some (Value.int (σ5.1 101 (b - 30).toNatClampNeg)) = some (Value.int v1) ∧ ∃ v2, some (Value.int v1) = some (Value.int v2) ∧ EvM 40 mX10_grid [.ref 245, .int (nI R), .int b] σ5 (fun r2 σ2 => r2 = some (.int v2) ∧ Rel σ2) := by
      intro i hi e
      have e9 : b - 30 = nI i := by rw [e, show (30 : Int32) = nI 30 from rfl, pk_sub (by omega), show 30 + i - 30 = i by omega]
      rw [e9, cl (by omega), b6 i hi]
      refine ⟨nvin (by omega) (by omega), go _ (fun z => no (30 + i) 0 (by omega) (by omega) (by omega) e z) (fun z => no (30 + i) 1 (by omega) (by omega) (by omega) e z) (fun j hj z => no (30 + i) (10 + j) (by omega) (by omega) (by omega) e z) (fun j hj z => ?_) (fun _ _ _ z => absurd ⟨i, hi, e⟩ z)⟩
      have := (nI_eq (by omega) (by omega)).mp (e.symm.trans z)
      rw [show i = j by omega]
    have nob : (¬ b = 0 → ¬ b = 1 → ¬ (∃ i, i < l.length ∧ b = nI (10 + i)) → ¬ (∃ i, i < l.length ∧ b = nI (30 + i)) → ∃ v1, some (Value.int (-1)) = some (Value.int v1) ∧ ∃ v2, some (Value.int v1) = some (Value.int v2) ∧ EvM 40 mX10_grid [.ref 245, .int (nI R), .int b] σ5 (fun r2 σ2 => r2 = some (.int v2) ∧ Rel σ2)) := fun n0 n1 n10 n30 => go _ (fun z => absurd z n0) (fun z => absurd z n1) (fun i hi e => absurd ⟨i, hi, e⟩ n10) (fun i hi e => absurd ⟨i, hi, e⟩ n30) (fun _ _ _ _ => rfl)
    rw [s5.1, b5.1, show (30 : Int32) + nI l.length = nI (30 + l.length) by rw [show (30 : Int32) = nI 30 from rfl, nI_add], show (10 : Int32) + nI l.length = nI (10 + l.length) by rw [show (10 : Int32) = nI 10 from rfl, nI_add]]
    have n10 : ∀ i, i < l.length → b = nI (10 + i) → b.toInt = ((10 + i : Nat) : Int) := fun i hi e => by rw [e, i_nI (by omega)]
    have n30 : ∀ i, i < l.length → b = nI (30 + i) → b.toInt = ((30 + i : Nat) : Int) := fun i hi e => by rw [e, i_nI (by omega)]
    refine ⟨fun z => go _ (fun _ => rfl) (fun y => no 0 1 (by omega) (by omega) (by omega) z y) (fun i hi y => no 0 (10 + i) (by omega) (by omega) (by omega) z y) (fun i hi y => no 0 (30 + i) (by omega) (by omega) (by omega) z y) (fun y _ _ _ => absurd z y), fun z0 => ⟨fun z => go _ (fun y => no 1 0 (by omega) (by omega) (by omega) z y) (fun _ => rfl) (fun i hi y => no 1 (10 + i) (by omega) (by omega) (by omega) z y) (fun i hi y => no 1 (30 + i) (by omega) (by omega) (by omega) z y) (fun _ y _ _ => absurd z y), fun z1 => ⟨fun z => ⟨fun y => nob z0 z1 ?_ ?_, fun y => ?_⟩, fun z => ⟨fun y => ⟨fun w => nob z0 z1 ?_ ?_, fun w => ⟨fun u => nob z0 z1 ?_ ?_, fun u => ?_⟩⟩, fun y => ?_⟩⟩⟩⟩
    · rintro ⟨i, hi, e⟩; rw [i_lt, n10 i hi e, e10] at z; omega
    · rintro ⟨i, hi, e⟩; rw [i_lt, n30 i hi e, e30] at y; omega
    · exfalso; rw [i_lt, e10] at z; rw [i_lt, e30] at y; omega
    · rintro ⟨i, hi, e⟩; rw [i_le, n10 i hi e, i_nI (by omega)] at y; omega
    · rintro ⟨i, hi, e⟩; rw [i_lt, n30 i hi e, e30] at w; omega
    · rintro ⟨i, hi, e⟩; rw [i_le, n10 i hi e, i_nI (by omega)] at y; omega
    · rintro ⟨i, hi, e⟩; rw [i_le, n30 i hi e, i_nI (by omega)] at u; omega
    · rw [i_lt, e30] at w
      rw [i_le, i_nI (by omega)] at u
      exact f30 (b.toInt.toNat - 30) (by omega) (i_of (by omega) (by omega))
    · rw [i_lt, e10] at z
      rw [i_le, i_nI (by omega)] at y
      obtain ⟨i, hi, e⟩ : ∃ i : Nat, i < l.length ∧ b = nI (10 + i) := ⟨b.toInt.toNat - 10, by omega, i_of (by omega) (by omega)⟩
      have e9 : b - 10 = nI i := by rw [e, show (10 : Int32) = nI 10 from rfl, pk_sub (by omega), show 10 + i - 10 = i by omega]
      rw [e9, cl (by omega), s5.2 i hi]
      refine ⟨nvin (by omega) (by omega), go _ (fun z => no (10 + i) 0 (by omega) (by omega) (by omega) e z) (fun z => no (10 + i) 1 (by omega) (by omega) (by omega) e z) (fun j hj z => ?_) (fun j hj z => no (10 + i) (30 + j) (by omega) (by omega) (by omega) e z) (fun _ _ z _ => absurd ⟨i, hi, e⟩ z)⟩
      have := (nI_eq (by omega) (by omega)).mp (e.symm.trans z)
      rw [show i = j by omega]
