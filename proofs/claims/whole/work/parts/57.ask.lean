/-! crossings(), at(), links(), link() on both sides. -/
section
variable {T : Nat → Nat → Bool} {Gp : Nat → Nat} {Ph : Nat → Int32} {Hd Th : Nat → Bool} {σ τ : S0}
/-- the reference throws kind 1, or 2, or goes on -/
theorem thr1 {t2 : Int32} {F : Int32 → S0 → Prop} (h : F 1 (st τ 0 0 1)) : Sp_R_throwing 1 t2 τ F := sp_throwing (fun _ => h) (fun c => absurd c (by decide)) (fun c => absurd c (by decide))
theorem thr2 {F : Int32 → S0 → Prop} (h : F 1 (st τ 0 0 2)) : Sp_R_throwing 0 1 τ F := sp_throwing (fun c => absurd rfl c) (fun _ _ => h) (fun _ c => absurd c (by decide))
theorem thr0 {F : Int32 → S0 → Prop} (h : F 0 (st τ 0 0 0)) : Sp_R_throwing 0 0 τ F := sp_throwing (fun c => absurd rfl c) (fun _ c => absurd rfl c) (fun _ _ => h)
theorem step_crossings {g : Nat → Int64} (h : InvP Sht σ τ) (a : Int32) : Sp_L_crossings a σ g (fun k σ1 g1 => Sp_R_crossings a τ (fun bb τ1 => Sp_R_thrown τ1 (fun th τ2 => th = k ∧ (k = 0 → g1 0 = bb.toInt64) ∧ K0 Sht σ1 τ2 g1))) := by
  obtain ⟨T, Gp, Ph, Hd, Th, hW, hC, hR, hS⟩ := id h
  have t1 : ∀ {r : Int32} {K : S0 → S0 → (Nat → Int64) → Prop}, K0 Sht = K → Sp_R_thrown (st τ 0 0 1) (fun th τ2 => th = 1 ∧ ((1 : Int32) = 0 → g 0 = r.toInt64) ∧ K σ τ2 g) := fun {r K} e => by
    subst e; exact threw (r := 0) (by decide) (st_same _ _ _ _) (h.frame ShtF RF.put0)
  unfold Sp_L_crossings Sp_M_crossings
  intro G9 G32 h9 h32
  by_cases ha : a < 0
  · refine ⟨fun _ => h9 _ _ _ ⟨fun c => absurd rfl c, fun _ => Or.inl ⟨rfl, ?_⟩⟩, fun c => absurd ha c⟩
    unfold Sp_R_crossings
    intro G25 G37 h25 h37
    exact ⟨fun _ => h25 _ _ _ ⟨fun _ => h37 _ _ _ _ (thr1 ⟨fun c => absurd c (by decide), fun _ => t1 rfl⟩), fun _ => h37 _ _ _ _ (thr1 ⟨fun c => absurd c (by decide), fun _ => t1 rfl⟩)⟩, fun c => absurd ha c⟩
  · refine ⟨fun c => absurd c ha, fun _ => h9 _ _ _ ⟨fun _ => ?_, fun c => absurd c (by decide)⟩⟩
    rcases hS with ⟨s0, s1⟩ | ⟨s0, s1, hp, its, hits, ⟨sc, sc8, sc17⟩, sr, sr2, sr16, _⟩
    · refine ⟨fun c => absurd s0 c, fun _ => Or.inr ⟨rfl, ?_⟩⟩
      unfold Sp_R_crossings
      intro G25 G37 h25 h37
      exact ⟨fun c => absurd c ha, fun _ => ⟨fun _ => h25 _ _ _ ⟨fun c => absurd s1 c, fun _ => h37 _ _ _ _ (thr2 ⟨fun c => absurd c (by decide), fun _ => threw (r := 0) (by decide) (st_same _ _ _ _) (h.frame ShtF RF.put0)⟩)⟩, fun c => absurd s1 c⟩⟩
    · have z1 : ¬ τ 0 1 = 0 := by rw [s1]; decide
      obtain ⟨j, hj, rfl⟩ := nI_of ha
      refine ⟨fun _ => ?_, fun c => absurd (by rw [← c, s0]) (by decide : ¬ (0 : Int32) = 1)⟩
      show (σ 0 8 < nI j → G32 (nI j) 0 σ) ∧ (¬ σ 0 8 < nI j → G32 (nI j) 1 σ)
      rw [sc8, nI_ltI (by omega) hj]
      refine ⟨fun c => h32 _ _ _ ⟨fun c2 => absurd rfl c2, fun _ => Or.inl ⟨rfl, ?_⟩⟩, fun c => h32 _ _ _ ⟨fun _ => ⟨in13 (by omega), ?_⟩, fun c2 => absurd c2 (by decide)⟩⟩
      · unfold Sp_R_crossings
        intro G25 G37 h25 h37
        rw [sr2, nI_leI hj (by omega)]
        exact ⟨fun c => absurd c (nI_pos hj), fun _ => ⟨fun c => absurd c z1, fun _ => ⟨fun c2 => absurd c2 (by omega), fun _ => h25 _ _ _ ⟨fun _ => h37 _ _ _ _ (thr1 ⟨fun c => absurd c (by decide), fun _ => t1 rfl⟩), fun c => absurd c z1⟩⟩⟩⟩
      · unfold Sp_R_crossings
        intro G25 G37 h25 h37
        rw [sr2, nI_leI hj (by omega)]
        refine ⟨fun c => absurd c (nI_pos hj), fun _ => ⟨fun c => absurd c z1, fun _ => ⟨fun c2 => h25 _ _ _ ⟨fun _ => h37 _ _ _ _ (thr0 ⟨fun _ => ⟨in13 (by omega), ?_⟩, fun c => absurd rfl c⟩), fun c => absurd c z1⟩, fun c2 => absurd (by omega) c2⟩⟩⟩
        rw [cl hj, st_ne (by decide), sc17 j (by omega), sr16 j (by omega)]
        exact both g_0 (st_same _ _ _ _) (h.frame ShtF RF.put0)
theorem step_at {g : Nat → Int64} (h : InvP Sht σ τ) (a b : Int32) : Sp_L_at a b σ g (fun k σ1 g1 => Sp_R_at a b τ (fun bb τ1 => Sp_R_thrown τ1 (fun th τ2 => th = k ∧ (k = 0 → g1 0 = bb.toInt64) ∧ K0 Sht σ1 τ2 g1))) := by
  obtain ⟨T, Gp, Ph, Hd, Th, hW, hC, hR, hS⟩ := id h
  unfold Sp_L_at Sp_M_at
  intro G18 h18
  -- the reference, where it throws the first kind
  have R1 : ((¬ ∃ i, i < 16 ∧ a = nI i) ∨ (¬ (b = 0 ∨ b = 1))) → Sp_R_at a b τ (fun bb τ1 => Sp_R_thrown τ1 (fun th τ2 => th = 1 ∧ ((1 : Int32) = 0 → g 0 = bb.toInt64) ∧ K0 Sht σ τ2 g)) := fun q => by
    unfold Sp_R_at
    intro G22 G34 h22 h34
    have bad : G22 a b 1 τ := h22 _ _ _ _ ⟨fun _ => h34 _ _ _ _ _ (thr1 ⟨fun c => absurd c (by decide), fun _ => threw (r := 0) (by decide) (st_same _ _ _ _) (h.frame ShtF RF.put0)⟩), fun _ => h34 _ _ _ _ _ (thr1 ⟨fun c => absurd c (by decide), fun _ => threw (r := 0) (by decide) (st_same _ _ _ _) (h.frame ShtF RF.put0)⟩)⟩
    refine sp_isCtx (fun i hi e => ⟨fun c => absurd c (by decide), fun _ => sp_in (fun c1 c2 => ⟨fun _ => ?_, fun c => absurd c (by decide)⟩) (fun _ => ⟨fun c => absurd rfl c, fun _ => bad⟩)⟩) (fun _ => ⟨fun _ => bad, fun c => absurd rfl c⟩)
    rcases q with q | q
    · exact absurd ⟨i, hi, e⟩ q
    · exact absurd (in01.mp ⟨c1, c2⟩) q
  refine sp_ctx (fun i hi e => ?_) (fun q => Or.inl ⟨rfl, R1 (Or.inl q)⟩)
  have hgi := hW.lt hi
  -- the reference, where it goes on
  have R0 : (b = 0 ∨ b = 1) → ∀ {F : Int32 → S0 → Prop}, (τ 0 1 = 0 → F 0 (st τ 0 0 2)) → (¬ τ 0 1 = 0 → Dr Gp Hd Th (Gp i) = false → F (-1) (st τ 0 0 0)) → (¬ τ 0 1 = 0 → Dr Gp Hd Th (Gp i) = true → F (if b = 0 then τ 8 (Gp i) else τ 10 (Gp i)) (st τ 0 0 0)) → Sp_R_at a b τ F := fun q {F} f2 fn fy => by
    unfold Sp_R_at
    intro G22 G34 h22 h34
    refine sp_isCtx (fun _ _ _ => ⟨fun c => absurd c (by decide), fun _ => sp_in (fun c1 c2 => ⟨fun _ => h22 _ _ _ _ ⟨fun c => h34 _ _ _ _ _ (thr0 ⟨fun _ => ?_, fun c => absurd rfl c⟩), fun c => h34 _ _ _ _ _ (thr2 ⟨fun c => absurd c (by decide), fun _ => f2 c⟩)⟩, fun c => absurd c (by decide)⟩) (fun c => ?_)⟩) (fun q => absurd ⟨i, hi, e⟩ q)
    · have hR0 : RD T Gp Ph Hd Th (st τ 0 0 0) := hR.five (fun b h1 h5 => st_ne (by omega))
      rw [e]
      refine ⟨in16 hi, fun v7 e7 => ?_⟩
      rw [cl (by omega : i < 2 ^ 31), hR0.2.1 i hi] at e7
      rw [e7]
      refine sp_isDrawn hR0 hW hgi ⟨fun c3 => ?_, fun c3 => fn c (b2i_0.mp c3)⟩
      have fy' := fy c (b2i_ne c3)
      rw [cl (by omega : Gp i < 2 ^ 31), st_ne (by decide), st_ne (by decide)]
      refine ⟨fun c4 => ⟨in166 (by omega), ?_⟩, fun c4 => ⟨in166 (by omega), ?_⟩⟩
      · rw [if_neg c4] at fy'; exact fy'
      · rw [if_pos c4] at fy'; exact fy'
    · have := in01.mpr q
      rcases c with c | c
      · exact absurd c this.1
      · exact absurd c this.2
  have go : (b = 0 ∨ b = 1) → G18 a b 1 σ := fun q => by
    refine h18 _ _ _ _ ⟨fun _ => ?_, fun c => absurd c (by decide)⟩
    rcases hS with ⟨s0, s1⟩ | ⟨s0, s1, hp, its, hits, ⟨sc, sc8, sc17⟩, sr, sr2, sr16, _⟩
    · exact ⟨fun c => absurd s0 c, fun _ => Or.inr ⟨rfl, R0 q (fun _ => threw (r := 0) (by decide) (st_same _ _ _ _) (h.frame ShtF RF.put0)) (fun c => absurd s1 c) (fun c => absurd s1 c)⟩⟩
    · have z1 : ¬ τ 0 1 = 0 := by rw [s1]; decide
      refine ⟨fun _ => ?_, fun c => absurd (by rw [← c, s0]) (by decide : ¬ (0 : Int32) = 1)⟩
      rw [e]
      refine ⟨in16 hi, fun v4 e4 => ?_⟩
      rw [cl (by omega : i < 2 ^ 31), hC.1 i hi] at e4
      rw [e4, ← e]
      refine sp_hasS sc.1.1 hgi (fun hd => ⟨fun _ => ?_, fun c => absurd c (by decide)⟩) (fun hd => ⟨fun c => absurd rfl c, fun _ => R0 q (fun c => absurd c z1) (fun _ _ => both g_0 (st_same _ _ _ _) (h.frame ShtF RF.put0)) (fun _ c => ?_)⟩)
      · have hd' : Dr Gp Hd Th (Gp i) = true := hd
        have hN : 16 ≤ (pOf T Gp Ph Hd Th).N := by unfold Pn.N; omega
        have hir : (pOf T Gp Ph Hd Th).ir (Gp i) < (pOf T Gp Ph Hd Th).R := by rw [ir_g hgi hd]; exact hp.2.2.2.1 _ hgi hd
        rw [cl (by omega : Gp i < 2 ^ 31)]
        refine ⟨fun c => ⟨in166 (by omega), R0 q (fun c => absurd c z1) (fun _ c => ?_) (fun _ _ => ?_)⟩, fun c => ⟨in16 hgi, R0 q (fun c => absurd c z1) (fun _ c => ?_) (fun _ _ => ?_)⟩⟩
        · rw [hd'] at c; cases c
        · rw [if_neg c, sc.2.2.2.2.2.2.2 _ (by omega) hir, sr.2 _ (by omega) hir]
          exact both g_0 (st_same _ _ _ _) (h.frame ShtF RF.put0)
        · rw [hd'] at c; cases c
        · rw [if_pos c, sc.1.2.2.2.2.1 _ hgi hd, sr.grp hp _ hgi hd]
          exact both g_0 (st_same _ _ _ _) (h.frame ShtF RF.put0)
      · have hd' : Dr Gp Hd Th (Gp i) = false := hd
        rw [hd'] at c; cases c
  exact ⟨fun c => go (Or.inl c), fun c => ⟨fun c2 => h18 _ _ _ _ ⟨fun c => absurd rfl c, fun _ => Or.inl ⟨rfl, R1 (Or.inr (by rintro (q | q); exact c q; exact c2 q))⟩⟩, fun c2 => go (Or.inr c2)⟩⟩
theorem step_links {g : Nat → Int64} (h : InvP Sht σ τ) : Sp_L_links σ g (fun k σ1 g1 => Sp_R_links τ (fun bb τ1 => Sp_R_thrown τ1 (fun th τ2 => th = k ∧ (k = 0 → g1 0 = bb.toInt64) ∧ K0 Sht σ1 τ2 g1))) := by
  obtain ⟨T, Gp, Ph, Hd, Th, hW, hC, hR, hS⟩ := id h
  unfold Sp_L_links Sp_M_links
  rcases hS with ⟨s0, s1⟩ | ⟨s0, s1, hp, its, hits, ⟨sc, sc8, sc17⟩, sr, sr2, sr16, _⟩
  · refine ⟨fun c => absurd s0 c, fun _ => ⟨rfl, ?_⟩⟩
    unfold Sp_R_links
    intro G13 h13
    exact ⟨fun c => absurd s1 c, fun _ => h13 _ _ (thr1 ⟨fun c => absurd c (by decide), fun _ => threw (r := 0) (by decide) (st_same _ _ _ _) (h.frame ShtF RF.put0)⟩)⟩
  · have z1 : ¬ τ 0 1 = 0 := by rw [s1]; decide
    refine ⟨fun _ => ?_, fun c => absurd (by rw [← c, s0]) (by decide : ¬ (0 : Int32) = 1)⟩
    unfold Sp_R_links
    intro G13 h13
    refine ⟨fun _ => h13 _ _ (thr0 ⟨fun _ => ?_, fun c => absurd rfl c⟩), fun c => absurd c z1⟩
    rw [st_other (by decide), sc.1.2.1, sr.1.2.2.1]
    exact both g_0 (st_same _ _ _ _) (h.frame ShtF RF.put0)
theorem step_link {g : Nat → Int64} (h : InvP Sht σ τ) (a b : Int32) : Sp_L_link a b σ g (fun k σ1 g1 => Sp_R_link a b τ (fun bb τ1 => Sp_R_thrown τ1 (fun th τ2 => th = k ∧ (k = 0 → g1 0 = bb.toInt64) ∧ K0 Sht σ1 τ2 g1))) := by
  obtain ⟨T, Gp, Ph, Hd, Th, hW, hC, hR, hS⟩ := id h
  unfold Sp_L_link Sp_M_link
  intro G13 G50 h13 h50
  have R1 : (a < 0 ∨ b < 0) → Sp_R_link a b τ (fun bb τ1 => Sp_R_thrown τ1 (fun th τ2 => th = 1 ∧ ((1 : Int32) = 0 → g 0 = bb.toInt64) ∧ K0 Sht σ τ2 g)) := fun q => by
    unfold Sp_R_link
    intro G39 G54 h39 h54
    have bad : G39 a b 1 τ := h39 _ _ _ _ ⟨fun _ => h54 _ _ _ _ _ (thr1 ⟨fun c => absurd c (by decide), fun _ => threw (r := 0) (by decide) (st_same _ _ _ _) (h.frame ShtF RF.put0)⟩), fun _ => h54 _ _ _ _ _ (thr1 ⟨fun c => absurd c (by decide), fun _ => threw (r := 0) (by decide) (st_same _ _ _ _) (h.frame ShtF RF.put0)⟩)⟩
    refine ⟨fun _ => bad, fun c => ⟨fun _ => bad, fun c2 => ?_⟩⟩
    rcases q with q | q
    · exact absurd q c
    · exact absurd q c2
  have bad0 : (a < 0 ∨ b < 0) → G13 a b 0 σ := fun q => h13 _ _ _ _ ⟨fun c => absurd rfl c, fun _ => Or.inl ⟨rfl, R1 q⟩⟩
  refine ⟨fun c => bad0 (Or.inl c), fun ha => ⟨fun c => bad0 (Or.inr c), fun hb => h13 _ _ _ _ ⟨fun _ => ?_, fun c => absurd c (by decide)⟩⟩⟩
  rcases hS with ⟨s0, s1⟩ | ⟨s0, s1, hp, its, hits, ⟨sc, sc8, sc17⟩, sr, sr2, sr16, _⟩
  · refine ⟨fun c => absurd s0 c, fun _ => Or.inr ⟨rfl, ?_⟩⟩
    unfold Sp_R_link
    intro G39 G54 h39 h54
    exact ⟨fun c => absurd c ha, fun _ => ⟨fun c => absurd c hb, fun _ => ⟨fun _ => h39 _ _ _ _ ⟨fun c => absurd s1 c, fun _ => h54 _ _ _ _ _ (thr2 ⟨fun c => absurd c (by decide), fun _ => threw (r := 0) (by decide) (st_same _ _ _ _) (h.frame ShtF RF.put0)⟩)⟩, fun c => absurd s1 c⟩⟩⟩
  · have z1 : ¬ τ 0 1 = 0 := by rw [s1]; decide
    refine ⟨fun _ => ?_, fun c => absurd (by rw [← c, s0]) (by decide : ¬ (0 : Int32) = 1)⟩
    obtain ⟨k, hk, ea⟩ := nI_of ha
    obtain ⟨w, hw, eb⟩ := nI_of hb
    generalize hpq : pOf T Gp Ph Hd Th = p at *
    have h120 := hp.n120
    have R2 : (p.n ≤ k ∨ ∃ _ : k < p.n, ¬ w ≤ 2 + p.nb k) → Sp_R_link a b τ (fun bb τ1 => Sp_R_thrown τ1 (fun th τ2 => th = 1 ∧ ((1 : Int32) = 0 → g 0 = bb.toInt64) ∧ K0 Sht σ τ2 g)) := fun q => by
      unfold Sp_R_link
      intro G39 G54 h39 h54
      have bad : G39 a b 1 τ := h39 _ _ _ _ ⟨fun _ => h54 _ _ _ _ _ (thr1 ⟨fun c => absurd c (by decide), fun _ => threw (r := 0) (by decide) (st_same _ _ _ _) (h.frame ShtF RF.put0)⟩), fun _ => h54 _ _ _ _ _ (thr1 ⟨fun c => absurd c (by decide), fun _ => threw (r := 0) (by decide) (st_same _ _ _ _) (h.frame ShtF RF.put0)⟩)⟩
      refine ⟨fun c => absurd c ha, fun _ => ⟨fun c => absurd c hb, fun _ => ⟨fun c => absurd c z1, fun _ => ⟨fun _ => bad, fun c => ?_⟩⟩⟩⟩
      rcases q with q | ⟨q, q2⟩
      · exact absurd (by rw [sr.1.2.2.1, ea]; exact (nI_leI (by omega) hk).mpr q) c
      · have h14 := hp.nb14 q
        rw [ea]
        refine sp_rbends hp.pw sr.1.2.2.2.1 (Nat.le_refl _) (sr.grp hp) q ⟨fun c2 => ?_, fun _ => by rw [← ea]; exact bad⟩
        rw [eb, show (2 : Int32) = nI 2 from rfl, nI_add, nI_leI hw (by omega)] at c2; exact absurd c2 q2
    have no50 : (p.n ≤ k ∨ ∃ _ : k < p.n, ¬ w ≤ 2 + p.nb k) → G50 a b 0 σ := fun q => h50 _ _ _ _ ⟨fun c => absurd rfl c, fun _ => Or.inl ⟨rfl, R2 q⟩⟩
    have yes : k < p.n → w ≤ 2 + p.nb k → G50 a b 1 σ := fun hkn hwn => by
      have h14 := hp.nb14 hkn
      have h150 := hp.fb150 (Nat.le_of_lt hkn)
      have hl := sr.1.2.2.2.1 k hkn
      have R0 : ∀ {F : Int32 → S0 → Prop}, F (if w = 0 then nI (p.U k) else if w = 1 then nI (p.W k) else if w = 2 then nI (p.nb k) else nI (p.pl (p.bst its) (p.pt k (w - 2)))) (st τ 0 0 0) → Sp_R_link a b τ F := fun {F} hF => by
        unfold Sp_R_link
        intro G39 G54 h39 h54
        have good : G39 a b 0 τ := by
          refine h39 _ _ _ _ ⟨fun _ => h54 _ _ _ _ _ (thr0 ⟨fun _ => ?_, fun c => absurd rfl c⟩), fun c => absurd c z1⟩
          have l0 : RL0 p p.n (st τ 0 0 0) := fun k hk => by rw [st_ne (by decide), st_ne (by decide), st_ne (by decide)]; exact sr.1.2.2.2.1 k hk
          have g0 : ∀ g, g < 16 → p.dr g = true → st τ 0 0 0 8 g = nI (p.ro g) := fun g hg hd => by rw [st_ne (by decide)]; exact sr.grp hp g hg hd
          rw [ea, eb, cl hk, (l0 k hkn).1, (l0 k hkn).2.1, (l0 k hkn).2.2]
          have x0 : nI w = 0 ↔ w = 0 := nIx (b := 0) hw (by omega)
          have x1 : nI w = 1 ↔ w = 1 := nIx (b := 1) hw (by omega)
          have x2 : nI w = 2 ↔ w = 2 := nIx (b := 2) hw (by omega)
          refine ⟨⟨fun c => ⟨in240 (by omega), ?_⟩, fun c => ⟨in240 (by omega), ?_⟩, fun c => sp_rbends hp.pw l0 (Nat.le_refl _) g0 hkn ?_⟩, fun c => ?_⟩
          · rw [if_pos (x0.mp c)] at hF; exact hF
          · have := x1.mp c
            rw [if_neg (by omega), if_pos this] at hF; exact hF
          · have := x2.mp c
            rw [if_neg (by omega), if_neg (by omega), if_pos this] at hF; exact hF
          · rw [x0, x1, x2] at c
            rw [if_neg c.1, if_neg c.2.1, if_neg c.2.2] at hF
            have pto := hp.pt_ok (j := w - 2) hkn (by omega)
            have hli := hp.link hkn
            obtain ⟨j, hj⟩ : ∃ j, w = j + 3 := ⟨w - 3, by omega⟩
            have ept : p.pt k (w - 2) = 16 + p.fb k + j := by rw [show w - 2 = j + 1 by omega]; exact pt_b (by omega)
            rw [ept] at hF pto
            have e3 : nI (16 + p.fb k) + nI w - 3 = nI (16 + p.fb k + j) := by
              rw [nI_add, show (3 : Int32) = nI 3 from rfl, pk_sub (by omega)]; congr 1; omega
            have hbl := bend_lt hkn (show j < p.nb k by omega)
            have hN6 := hp.N166
            rw [e3, cl (by omega : 16 + p.fb k + j < 2 ^ 31), st_ne (by decide), sr.2 _ hbl (by omega)]
            exact ⟨in240 (by omega), in166 (by omega), hF⟩
        refine ⟨fun c => absurd c ha, fun _ => ⟨fun c => absurd c hb, fun _ => ⟨fun c => absurd c z1, fun _ => ⟨fun c => ?_, fun _ => ?_⟩⟩⟩⟩
        · rw [sr.1.2.2.1, ea, nI_leI (by omega) hk] at c; omega
        · rw [ea]
          refine sp_rbends hp.pw sr.1.2.2.2.1 (Nat.le_refl _) (sr.grp hp) hkn ⟨fun _ => by rw [← ea]; exact good, fun c => absurd ?_ c⟩
          rw [eb, show (2 : Int32) = nI 2 from rfl, nI_add, nI_leI hw (by omega)]; exact hwn
      refine h50 _ _ _ _ ⟨fun _ => ?_, fun c => absurd c (by decide)⟩
      have fin : ∀ r : Int32, r = (if w = 0 then nI (p.U k) else if w = 1 then nI (p.W k) else if w = 2 then nI (p.nb k) else nI (p.pl (p.bst its) (p.pt k (w - 2)))) → Sp_R_link a b τ (fun bb τ1 => Sp_R_thrown τ1 (fun th τ2 => th = 0 ∧ ((0 : Int32) = 0 → vp_updL g 0 r.toInt64 0 = bb.toInt64) ∧ K0 Sht σ τ2 (vp_updL g 0 r.toInt64))) := fun r hr => R0 (by rw [← hr]; exact both g_0 (st_same _ _ _ _) (h.frame ShtF RF.put0))
      have x0 : b = 0 ↔ w = 0 := by rw [eb]; exact nIx (b := 0) hw (by omega)
      have x1 : b = 1 ↔ w = 1 := by rw [eb]; exact nIx (b := 1) hw (by omega)
      have x2 : b = 2 ↔ w = 2 := by rw [eb]; exact nIx (b := 2) hw (by omega)
      have ek : a.toNatClampNeg = k := by rw [ea]; exact cl hk
      refine ⟨⟨fun c => ⟨by rw [ea]; exact in256 (by omega), ?_⟩, fun c => ⟨by rw [ea]; exact in256 (by omega), ?_⟩, fun c => ?_⟩, fun c => ?_⟩
      · rw [ek, (sc.1.2.2.1 k hkn).1]
        exact fin _ (by rw [if_pos (x0.mp c)])
      · rw [ek, (sc.1.2.2.1 k hkn).2]
        have := x1.mp c
        exact fin _ (by rw [if_neg (by omega), if_pos this])
      · have := x2.mp c
        have f2 := fin (nI (p.nb k)) (by rw [if_neg (by omega), if_neg (by omega), if_pos this])
        have key : Sp_P_bendsOf (nI k) σ (fun r7 σ6 => Sp_R_link a b τ (fun bb τ1 => Sp_R_thrown τ1 (fun th τ2 => th = 0 ∧ ((0 : Int32) = 0 → vp_updL g 0 r7.toInt64 0 = bb.toInt64) ∧ K0 Sht σ6 τ2 (vp_updL g 0 r7.toInt64)))) := sp_bendsP hp sc.1 hkn f2
        rw [← ea] at key; exact key
      · rw [x0, x1, x2] at c
        have e2 : b - 2 = nI (w - 2) := by rw [eb, show (2 : Int32) = nI 2 from rfl, pk_sub (by omega)]
        have pto := hp.pt_ok (j := w - 2) hkn (by omega)
        have hli := hp.link hkn
        have hN6 := hp.N166
        have f3 := fin (nI (p.pl (p.bst its) (p.pt k (w - 2)))) (by rw [if_neg c.1, if_neg c.2.1, if_neg c.2.2])
        have key : Sp_P_pointOf (nI k) (nI (w - 2)) σ (fun r9 σ8 => vp_in r9 166 ∧ Sp_R_link a b τ (fun bb τ1 => Sp_R_thrown τ1 (fun th τ2 => th = 0 ∧ ((0 : Int32) = 0 → vp_updL g 0 (σ8 16 r9.toNatClampNeg).toInt64 0 = bb.toInt64) ∧ K0 Sht σ8 τ2 (vp_updL g 0 (σ8 16 r9.toNatClampNeg).toInt64)))) := by
          refine sp_pointOf hp sc.1 hkn (by omega) ⟨in166 (by omega), ?_⟩
          rw [cl (by omega), sc.2.2.2.2.2.2.2 _ pto.1 (by omega)]; exact f3
        rw [← ea, ← e2] at key; exact key
    rw [sc.1.2.1]
    have key : (nI p.n ≤ nI k → G50 a b 0 σ) ∧ (¬ nI p.n ≤ nI k → Sp_P_bendsOf (nI k) σ (fun r4 σ3 => (3 + r4 ≤ b → G50 a b 0 σ3) ∧ (¬ 3 + r4 ≤ b → G50 a b 1 σ3))) := by
      rw [nI_leI (by omega) hk]
      refine ⟨fun c => no50 (Or.inl c), fun c => ?_⟩
      have hkn : k < p.n := by omega
      have h14 := hp.nb14 hkn
      refine sp_bendsP hp sc.1 hkn ?_
      rw [eb, show (3 : Int32) = nI 3 from rfl, nI_add, nI_leI (by omega) hw, ← eb]
      exact ⟨fun c2 => no50 (Or.inr ⟨hkn, by omega⟩), fun c2 => yes hkn (by omega)⟩
    rw [← ea] at key; exact key
end
