/-! The reference: above, same, phase, hide, group. -/
section
variable {T : Nat → Nat → Bool} {Gp : Nat → Nat} {Ph : Nat → Int32} {Hd Th : Nat → Bool} {τ : S0}
theorem sp_findOver (hR : RD T Gp Ph Hd Th τ) (h16 : ∀ c, c < 16 → Gp c < 16) {post : S0 → Prop} (h : ∀ τ', (∀ b, b ≠ 6 → τ' b = τ b) → (∀ i j, i < 16 → j < 16 → τ' 6 (16 * i + j) = b2i (OV T Gp i j)) → post τ') : Sp_R_findOver τ post := by
  obtain ⟨r1, r2, r3, r4, r5⟩ := hR
  unfold Sp_R_findOver
  intro G2 G24 h2 h24
  have loop2 : ∀ k s, k ≤ 256 → ((∀ b, b ≠ 6 → s b = τ b) ∧ ∀ i j, i < 16 → j < 16 → s 6 (16 * i + j) = b2i (anyB k (fun x => T (x / 16) (x % 16) && (decide (Gp (x / 16) = i) && decide (Gp (x % 16) = j))))) → G24 (nI k) s := by
    refine upto 256 (fun k s => G24 (nI k) s) _ (fun s hI => ?_) (fun k s hk hI ih => ?_)
    · refine h24 _ _ ⟨fun _ => sp_close (m := DB T Gp) (fun i j hi hj => ?_) (fun τ' f1 f2 => h τ' (fun b hb => (f1 b hb).trans (hI.1 b hb)) f2), fun c => absurd ((le256 (by omega)).mpr (by omega)) c⟩
      rw [hI.2 i j hi hj]
      refine congrArg b2i ?_
      rw [Bool.eq_iff_iff, anyB_iff, db_iff]
      constructor
      · rintro ⟨x, hx, q⟩
        simp only [Bool.and_eq_true, decide_eq_true_eq] at q
        exact ⟨x / 16, x % 16, by omega, by omega, q.2.1, q.2.2, q.1⟩
      · rintro ⟨c, d, hc, hd, q1, q2, q3⟩
        refine ⟨16 * c + d, by omega, ?_⟩
        rw [show (16 * c + d) / 16 = c by omega, show (16 * c + d) % 16 = d by omega, q3, q1, q2]; simp
    · obtain ⟨i1, i2⟩ := hI
      have hc : k / 16 < 16 := by omega
      have hd : k % 16 < 16 := by omega
      have e1 : s 1 k = b2i (T (k / 16) (k % 16)) := by
        rw [i1 1 (by decide)]
        have := r1 (k / 16) (k % 16) hc hd
        rw [show 16 * (k / 16) + k % 16 = k by omega] at this; exact this
      refine h24 _ _ ⟨fun c => absurd ((le256 (by omega)).mp c) (by omega), fun _ => ⟨in256 hk, ?_⟩⟩
      rw [d16 hk, m16 hk, cl (by omega : k < 2 ^ 31), cl (by omega : k / 16 < 2 ^ 31), cl (by omega : k % 16 < 2 ^ 31), e1, i1 2 (by decide), r2 _ hc, r2 _ hd, mul16, nI_add, nI_1]
      have g1 := h16 _ hc
      have g2 := h16 _ hd
      refine ⟨fun c => ih s ⟨i1, fun i j hi hj => ?_⟩, fun c => ⟨in16 hc, in16 hd, in256 (by omega), fun σ3 e3 => ih σ3 ⟨fun b hb => by rw [e3, st_ne hb]; exact i1 b hb, fun i j hi hj => ?_⟩⟩⟩
      · rw [i2 i j hi hj, anyB, b2i_0.mp c, Bool.false_and, Bool.or_false]
      · have ht : T (k / 16) (k % 16) = true := by
          cases q : T (k / 16) (k % 16)
          · rw [q] at c; exact absurd rfl c
          · rfl
        rw [e3, cl (by omega : 16 * Gp (k / 16) + Gp (k % 16) < 2 ^ 31), st_app, anyB, ht, Bool.true_and]
        by_cases q : 16 * i + j = 16 * Gp (k / 16) + Gp (k % 16)
        · have qi : Gp (k / 16) = i := by omega
          have qj : Gp (k % 16) = j := by omega
          rw [if_pos ⟨rfl, q⟩, qi, qj]; simp [b2i]
        · rw [if_neg (by simp [q]), i2 i j hi hj]
          have : (decide (Gp (k / 16) = i) && decide (Gp (k % 16) = j)) = false := by
            rw [← Bool.decide_and]
            exact decide_eq_false (fun z => q (by rw [z.1, z.2]))
          rw [this, Bool.or_false]
  have loop1 : ∀ k s, k ≤ 256 → ((∀ b, b ≠ 6 → s b = τ b) ∧ ∀ x, x < k → s 6 x = 0) → G2 (nI k) s := by
    refine upto 256 (fun k s => G2 (nI k) s) _ (fun s hI => ?_) (fun k s hk hI ih => ?_)
    · exact h2 _ _ ⟨fun _ => loop2 0 s (by omega) ⟨hI.1, fun i j hi hj => by rw [hI.2 _ (by omega)]; rfl⟩, fun c => absurd ((le256 (by omega)).mpr (by omega)) c⟩
    · refine h2 _ _ ⟨fun c => absurd ((le256 (by omega)).mp c) (by omega), fun _ => ⟨in256 hk, fun σ1 e1 => ?_⟩⟩
      rw [nI_1]
      rw [cl (by omega : k < 2 ^ 31)] at e1
      refine ih σ1 ⟨fun b hb => by rw [e1, st_ne hb]; exact hI.1 b hb, fun x hx => ?_⟩
      rw [e1, st_app]
      by_cases q : x = k
      · simp [q]
      · rw [if_neg (by simp [q])]; exact hI.2 x (by omega)
  exact loop1 0 τ (by omega) ⟨fun _ _ => rfl, fun x hx => absurd hx (by omega)⟩
theorem sp_isOver (hR : RD T Gp Ph Hd Th τ) (h16 : ∀ c, c < 16 → Gp c < 16) {i j : Nat} (hi : i < 16) (hj : j < 16) {post : Int32 → S0 → Prop} (h : ∀ τ', RF τ τ' → τ' 0 0 = τ 0 0 → post (b2i (OV T Gp (Gp i) (Gp j))) τ') : Sp_R_isOver (nI i) (nI j) τ post := by
  unfold Sp_R_isOver
  refine sp_findOver hR h16 (fun τ' f1 f2 => ⟨in16 hi, in16 hj, ?_⟩)
  have gi := h16 i hi
  have gj := h16 j hj
  rw [cl (by omega : i < 2 ^ 31), cl (by omega : j < 2 ^ 31), f1 2 (by decide), hR.2.1 i hi, hR.2.1 j hj, mul16, nI_add, cl (by omega : 16 * Gp i + Gp j < 2 ^ 31), f2 _ _ gi gj]
  exact ⟨in256 (by omega), b2i_bo _, h τ' (RF.six f1) (by rw [f1 0 (by decide)])⟩
theorem sp_name {i j : Nat} (hi : i < 16) (hj : j < 16) {post : S0 → Prop} (h : ∀ τ', (∀ b, b ≠ 0 → b ≠ 5 → τ' b = τ b) → (∀ c, τ' 5 c = if c = i ∨ c = j then 1 else τ 5 c) → τ' 0 1 = 0 → τ' 0 0 = τ 0 0 → post τ') : Sp_R_name (nI i) (nI j) τ post := by
  unfold Sp_R_name
  refine ⟨in16 hi, fun σ1 e1 => ⟨in16 hj, fun σ2 e2 σ3 e3 => ?_⟩⟩
  rw [cl (by omega : i < 2 ^ 31)] at e1
  rw [cl (by omega : j < 2 ^ 31)] at e2
  refine h σ3 (fun b h0 h5 => by rw [e3, st_ne h0, e2, st_ne h5, e1, st_ne h5]) (fun c => ?_) (by rw [e3, st_same]) (by rw [e3, st_other (by decide), e2, st_ne (by decide), e1, st_ne (by decide)])
  rw [e3, st_ne (by decide), e2, st_app, e1, st_app]
  by_cases q1 : c = j
  · simp [q1]
  · by_cases q2 : c = i
    · simp [q1, q2]
    · simp [q1, q2]
theorem named {f : Nat → Bool} {i j c : Nat} {x : Int32} (hx : x = b2i (f c)) : (if c = i ∨ c = j then 1 else x) = b2i (upS (upS f i) j c) := by
  subst hx
  unfold upS
  by_cases q1 : c = i
  · simp [q1, b2i]
  · by_cases q2 : c = j
    · simp [q2, b2i]
    · simp [q1, q2]
set_option maxHeartbeats 1000000 in
theorem rf_above (hR : RD T Gp Ph Hd Th τ) (hW : WF T Gp Ph Hd Th) {a b : Int32} {post : Int32 → S0 → Prop}
    (hbad : (¬ ∃ i, i < 16 ∧ a = nI i) ∨ (¬ ∃ j, j < 16 ∧ b = nI j) → ∀ τ', RF τ τ' → τ' 0 0 = 1 → post 0 τ')
    (hgood : ∀ i j, i < 16 → j < 16 → a = nI i → b = nI j → (T i j = true → ∀ τ', RF τ τ' → τ' 0 0 = 0 → post 0 τ') ∧ (T i j = false → (Gp i = Gp j ∨ OV T Gp (Gp j) (Gp i) = true → ∀ τ', RF τ τ' → τ' 0 0 = 0 → post (-1) τ') ∧ (Gp i ≠ Gp j → OV T Gp (Gp j) (Gp i) = false → ∀ τ', RD (upT T i j) Gp Ph Hd (upS (upS Th i) j) τ' → τ' 0 1 = 0 → τ' 0 0 = 0 → post 1 τ'))) : Sp_R_above a b τ post := by
  unfold Sp_R_above
  intro G20 h20
  have bad : ((¬ ∃ i, i < 16 ∧ a = nI i) ∨ (¬ ∃ j, j < 16 ∧ b = nI j)) → G20 a b 1 τ := fun q => h20 _ _ _ _ (sp_throwing (fun _ => ⟨fun c => absurd c (by decide), fun _ => hbad q _ RF.put0 (st_same _ _ _ _)⟩) (fun c => absurd c (by decide)) (fun c => absurd c (by decide)))
  refine sp_isCtx (fun i hi ea => ⟨fun c => absurd c (by decide), fun _ => ?_⟩) (fun q => ⟨fun _ => bad (Or.inl q), fun c => absurd rfl c⟩)
  refine sp_isCtx (fun j hj eb => ⟨fun _ => ?_, fun c => absurd c (by decide)⟩) (fun q => ⟨fun c => absurd rfl c, fun _ => bad (Or.inr q)⟩)
  obtain ⟨g1, g2⟩ := hgood i j hi hj ea eb
  subst ea; subst eb
  have hgi := hW.lt hi
  have hgj := hW.lt hj
  refine h20 _ _ _ _ (sp_throwing (fun c => absurd rfl c) (fun _ c => absurd rfl c) (fun _ _ => ⟨fun _ => ?_, fun c => absurd rfl c⟩))
  have f0 : RF τ (st τ 0 0 0) := RF.put0
  have z0 : st τ 0 0 0 0 0 = 0 := st_same _ _ _ _
  generalize st τ 0 0 0 = σ5 at f0 z0
  have hR5 := hR.frame f0
  obtain ⟨r1, r2, r3, r4, r5⟩ := id hR5
  rw [mul16, nI_add, cl (by omega : 16 * i + j < 2 ^ 31), r1 i j hi hj, cl (by omega : i < 2 ^ 31), cl (by omega : j < 2 ^ 31), r2 i hi, r2 j hj]
  refine ⟨in256 (by omega), fun c => ⟨in16 hi, in16 hj, fun c2 => (g2 (b2i_0.mp c)).1 (Or.inl ((nIx (by omega) (by omega)).mp c2)) _ f0 z0, fun c2 => ?_⟩, fun c => g1 ?_ _ f0 z0⟩
  · obtain ⟨g3, g4⟩ := g2 (b2i_0.mp c)
    have hne : Gp i ≠ Gp j := fun q => c2 (by rw [q])
    refine sp_isOver hR5 (fun c hc => hW.lt hc) hj hi (fun σ7 f7 z7 => ⟨fun c3 => ⟨in256 (by omega), fun σ9 e9 => ?_⟩, fun c3 => g3 (Or.inr ?_) _ (f0.trans f7) (by rw [z7, z0])⟩)
    · have ho := b2i_0.mp c3
      obtain ⟨s1, s2, s3, s4, s5⟩ := hR5.frame f7
      have k9 : ∀ b, b ≠ 1 → σ9 b = σ7 b := fun b hb => by rw [e9, st_ne hb]
      refine sp_name hi hj (fun σ10 f10 n10 h10 z10 => g4 hne ho σ10 ⟨fun a b ha hb => ?_, fun c hc => ?_, fun c hc => ?_, fun c hc => ?_, fun c hc => ?_⟩ h10 (by rw [z10, k9 0 (by decide), z7, z0]))
      · rw [f10 1 (by decide) (by decide), e9, st_app]
        unfold upT
        by_cases q : 16 * a + b = 16 * i + j
        · have qa : a = i := by omega
          have qb : b = j := by omega
          subst qa; subst qb; simp [b2i]
        · rw [if_neg (by simp [q]), s1 a b ha hb]
          have : (decide (a = i) && decide (b = j)) = false := by
            rw [← Bool.decide_and]; exact decide_eq_false (fun z => q (by rw [z.1, z.2]))
          rw [this, Bool.or_false]
      · rw [f10 2 (by decide) (by decide), k9 2 (by decide)]; exact s2 c hc
      · rw [f10 3 (by decide) (by decide), k9 3 (by decide)]; exact s3 c hc
      · rw [f10 4 (by decide) (by decide), k9 4 (by decide)]; exact s4 c hc
      · rw [n10 c, k9 5 (by decide)]; exact named (s5 c hc)
    · cases q : OV T Gp (Gp j) (Gp i)
      · rw [q] at c3; exact absurd rfl c3
      · rfl
  · cases q : T i j
    · rw [q] at c; exact absurd rfl c
    · rfl
set_option maxHeartbeats 1000000 in
theorem rf_same (hR : RD T Gp Ph Hd Th τ) (hW : WF T Gp Ph Hd Th) {a b : Int32} {post : Int32 → S0 → Prop}
    (hbad : (¬ ∃ i, i < 16 ∧ a = nI i) ∨ (¬ ∃ j, j < 16 ∧ b = nI j) → ∀ τ', RF τ τ' → τ' 0 0 = 1 → post 0 τ')
    (hgood : ∀ i j, i < 16 → j < 16 → a = nI i → b = nI j → (Gp i = Gp j → ∀ τ', RF τ τ' → τ' 0 0 = 0 → post 0 τ') ∧ (Gp i ≠ Gp j → (OV T Gp (Gp i) (Gp j) = true ∨ OV T Gp (Gp j) (Gp i) = true → ∀ τ', RF τ τ' → τ' 0 0 = 0 → post (-1) τ') ∧ (OV T Gp (Gp i) (Gp j) = false → OV T Gp (Gp j) (Gp i) = false → ∀ τ', RD T (mrg Gp (Gp i) (Gp j)) Ph Hd (upS (upS Th i) j) τ' → τ' 0 1 = 0 → τ' 0 0 = 0 → post 1 τ'))) : Sp_R_same a b τ post := by
  unfold Sp_R_same
  intro G20 G93 G98 G128 h20 h93 h98 h128
  have bad : ((¬ ∃ i, i < 16 ∧ a = nI i) ∨ (¬ ∃ j, j < 16 ∧ b = nI j)) → G20 a b 1 τ := fun q => h20 _ _ _ _ (sp_throwing (fun _ => ⟨fun c => absurd c (by decide), fun _ => hbad q _ RF.put0 (st_same _ _ _ _)⟩) (fun c => absurd c (by decide)) (fun c => absurd c (by decide)))
  refine sp_isCtx (fun i hi ea => ⟨fun c => absurd c (by decide), fun _ => ?_⟩) (fun q => ⟨fun _ => bad (Or.inl q), fun c => absurd rfl c⟩)
  refine sp_isCtx (fun j hj eb => ⟨fun _ => ?_, fun c => absurd c (by decide)⟩) (fun q => ⟨fun c => absurd rfl c, fun _ => bad (Or.inr q)⟩)
  obtain ⟨g1, g2⟩ := hgood i j hi hj ea eb
  subst ea; subst eb
  have hgi := hW.lt hi
  have hgj := hW.lt hj
  refine h20 _ _ _ _ (sp_throwing (fun c => absurd rfl c) (fun _ c => absurd rfl c) (fun _ _ => ⟨fun _ => ⟨in16 hi, in16 hj, ?_⟩, fun c => absurd rfl c⟩))
  have f0 : RF τ (st τ 0 0 0) := RF.put0
  have z0 : st τ 0 0 0 0 0 = 0 := st_same _ _ _ _
  generalize st τ 0 0 0 = σ5 at f0 z0
  have hR5 := hR.frame f0
  rw [cl (by omega : i < 2 ^ 31), cl (by omega : j < 2 ^ 31), hR5.2.1 i hi, hR5.2.1 j hj]
  have nz : ∀ b : Bool, ¬ b2i b = 0 → b = true := fun b q => by cases b; exact absurd rfl q; rfl
  refine ⟨fun c => ?_, fun c => g1 ((nIx (by omega) (by omega)).mp c) _ f0 z0⟩
  have hne : Gp i ≠ Gp j := fun q => c (by rw [q])
  obtain ⟨g3, g4⟩ := g2 hne
  refine sp_isOver hR5 (fun c hc => hW.lt hc) hi hj (fun σ7 f7 z7 => ⟨fun c3 => g3 (Or.inl (nz _ c3)) _ (f0.trans f7) (by rw [z7, z0]), fun c3 => ?_⟩)
  have hR7 := hR5.frame f7
  refine sp_isOver hR7 (fun c hc => hW.lt hc) hj hi (fun σ9 f9 z9 => ⟨fun c4 => ⟨in16 hi, fun v11 e11 => ⟨in16 hj, fun v12 e12 => ?_⟩⟩, fun c4 => g3 (Or.inr (nz _ c4)) _ ((f0.trans f7).trans f9) (by rw [z9, z7, z0])⟩)
  obtain ⟨s1, s2, s3, s4, s5⟩ := hR7.frame f9
  rw [s2 i hi] at e11
  rw [s2 j hj] at e12
  subst e11; subst e12
  have ho := b2i_0.mp c3
  have ho2 := b2i_0.mp c4
  have loop : ∀ k s, k ≤ 16 → ((∀ b, b ≠ 2 → s b = σ9 b) ∧ ∀ c, c < 16 → s 2 c = nI (if c < k then mrg Gp (Gp i) (Gp j) c else Gp c)) → G98 (nI i) (nI j) (nI (Gp i)) (nI (Gp j)) (nI (min (Gp i) (Gp j))) (nI k) s := by
    refine upto 16 (fun k s => G98 (nI i) (nI j) (nI (Gp i)) (nI (Gp j)) (nI (min (Gp i) (Gp j))) (nI k) s) _ (fun s hI => ?_) (fun k s hk hI ih => ?_)
    · refine h98 _ _ _ _ _ _ _ ⟨fun _ => ?_, fun c => absurd ((le16 (by omega)).mpr (by omega)) c⟩
      obtain ⟨i1, i2⟩ := hI
      refine sp_name hi hj (fun σ10 f10 n10 h10 z10 => g4 ho ho2 σ10 ⟨fun a b ha hb => ?_, fun c hc => ?_, fun c hc => ?_, fun c hc => ?_, fun c hc => ?_⟩ h10 (by rw [z10, i1 0 (by decide), z9, z7, z0]))
      · rw [f10 1 (by decide) (by decide), i1 1 (by decide)]; exact s1 a b ha hb
      · rw [f10 2 (by decide) (by decide), i2 c hc, if_pos hc]
      · rw [f10 3 (by decide) (by decide), i1 3 (by decide)]; exact s3 c hc
      · rw [f10 4 (by decide) (by decide), i1 4 (by decide)]; exact s4 c hc
      · rw [n10 c, i1 5 (by decide)]; exact named (s5 c hc)
    · obtain ⟨i1, i2⟩ := hI
      have hgk := hW.lt hk
      have e2 : s 2 k = nI (Gp k) := by rw [i2 k hk, if_neg (by omega)]
      have put : (Gp k = Gp i ∨ Gp k = Gp j) → G128 (nI i) (nI j) (nI (Gp i)) (nI (Gp j)) (nI (min (Gp i) (Gp j))) (nI k) s := by
        intro q
        refine h128 _ _ _ _ _ _ _ ⟨in16 hk, fun σ14 e14 => ?_⟩
        rw [nI_1]
        rw [cl (by omega : k < 2 ^ 31)] at e14
        refine ih σ14 ⟨fun b hb => by rw [e14, st_ne hb]; exact i1 b hb, fun c hc => ?_⟩
        rw [e14, st_app]
        by_cases qc : c = k
        · subst qc
          rw [if_pos ⟨rfl, rfl⟩, if_pos (by omega)]
          unfold mrg; rw [if_pos q]
        · rw [if_neg (by simp [qc]), i2 c hc]
          have : c < k ↔ c < k + 1 := by omega
          simp only [this]
      refine h98 _ _ _ _ _ _ _ ⟨fun c => absurd ((le16 (by omega)).mp c) (by omega), fun _ => ⟨in16 hk, ?_⟩⟩
      rw [cl (by omega : k < 2 ^ 31), e2]
      refine ⟨fun c => put (Or.inl ((nIx (by omega) (by omega)).mp c)), fun c => ⟨in16 hk, fun c5 => ?_, fun c5 => put (Or.inr ((nIx (by omega) (by omega)).mp c5))⟩⟩
      rw [nI_1]
      refine ih s ⟨i1, fun d hd => ?_⟩
      rw [i2 d hd]
      by_cases qc : d = k
      · subst qc
        rw [if_neg (by omega), if_pos (by omega)]
        unfold mrg
        rw [if_neg]
        rintro (q | q)
        · exact c (by rw [q])
        · exact c5 (by rw [q])
      · have : d < k ↔ d < k + 1 := by omega
        simp only [this]
  refine ⟨fun c5 => h93 _ _ _ _ _ _ ?_, fun c5 => h93 _ _ _ _ _ _ ?_⟩
  · have q := (nI_leI (by omega) (by omega)).mp c5
    have := loop 0 σ9 (by omega) ⟨fun _ _ => rfl, fun c hc => by rw [if_neg (by omega)]; exact s2 c hc⟩
    rw [Nat.min_eq_right q] at this; exact this
  · have q : ¬ Gp j ≤ Gp i := fun z => c5 ((nI_leI (by omega) (by omega)).mpr z)
    have := loop 0 σ9 (by omega) ⟨fun _ _ => rfl, fun c hc => by rw [if_neg (by omega)]; exact s2 c hc⟩
    rw [Nat.min_eq_left (by omega)] at this; exact this
end
