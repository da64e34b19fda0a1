/-! count() on both sides. -/
section
variable {T : Nat → Nat → Bool} {Gp : Nat → Nat} {Ph : Nat → Int32} {Hd Th : Nat → Bool} {σ τ : S0}
theorem cnt_1 {n : Nat} {q : Nat → Bool} (h : q n = true) : cnt (n + 1) q = cnt n q + 1 := by rw [cnt, if_pos h]
theorem cnt_0 {n : Nat} {q : Nat → Bool} (h : q n = false) : cnt (n + 1) q = cnt n q := by rw [cnt, h]; rfl
theorem lds_fix (hW : WF T Gp Ph Hd Th) {i : Nat} (h : lds Gp Th i = true) : Gp i = i := by
  obtain ⟨c, hc, e⟩ := anyB_iff.mp h
  rw [Bool.and_eq_true] at e
  have e2 : Gp c = i := of_decide_eq_true e.2
  have := hW.2.1 c hc
  rw [e2] at this; exact this
theorem count_arg {a : Int32} : (a < 0 ∨ 4 < a) ∨ a = 0 ∨ a = 1 ∨ a = 2 ∨ a = 3 ∨ a = 4 := by
  rcases pk_ix a (n := 5) (by omega) with q | q | ⟨j, hj, e⟩
  · exact Or.inl (Or.inl q)
  · refine Or.inl (Or.inr ?_)
    rw [Int32.lt_iff_toInt_lt]; rw [Int32.le_iff_toInt_le] at q
    have h5 : (nI 5).toInt = 5 := by decide
    have h4 : (4 : Int32).toInt = 4 := by decide
    omega
  · refine Or.inr ?_
    rw [e]
    rcases (by omega : j = 0 ∨ j = 1 ∨ j = 2 ∨ j = 3 ∨ j = 4) with q | q | q | q | q
    · subst q; exact Or.inl rfl
    · subst q; exact Or.inr (Or.inl rfl)
    · subst q; exact Or.inr (Or.inr (Or.inl rfl))
    · subst q; exact Or.inr (Or.inr (Or.inr (Or.inl rfl)))
    · subst q; exact Or.inr (Or.inr (Or.inr (Or.inr rfl)))
set_option maxHeartbeats 1000000 in
theorem rf_count (hR : RD T Gp Ph Hd Th τ) (hW : WF T Gp Ph Hd Th) {a : Int32} {post : Int32 → S0 → Prop} (hbad : (a < 0 ∨ 4 < a) → post 0 (st τ 0 0 1)) (h0 : a = 0 → post (nI (cnt 16 Th)) (st τ 0 0 0)) (h1 : a = 1 → post (nI (cntT T)) (st τ 0 0 0)) (h2 : a = 2 → post (nI (cnt 16 (lds Gp Th))) (st τ 0 0 0)) (hn : (a = 3 ∨ a = 4) → τ 0 1 = 0 → post 0 (st τ 0 0 0)) (h3 : a = 3 → ¬ τ 0 1 = 0 → Sp_R_lastRow (st τ 0 0 0) (fun r s => post (r + 1) s)) (h4 : a = 4 → ¬ τ 0 1 = 0 → post (τ 0 3) (st τ 0 0 0)) : Sp_R_count a τ post := by
  unfold Sp_R_count
  intro G15 G28 G53 G63 G90 G100 G135 G143 h15 h28 h53 h63 h90 h100 h135 h143
  refine sp_in (fun c1 c2 => ⟨fun _ => h15 _ _ _ (sp_throwing (fun c => absurd rfl c) (fun _ c => absurd rfl c) (fun _ _ => ⟨fun _ => ?_, fun c => absurd rfl c⟩)), fun c => absurd c (by decide)⟩) (fun c => ⟨fun c2 => absurd rfl c2, fun _ => h15 _ _ _ (sp_throwing (fun _ => ⟨fun c3 => absurd c3 (by decide), fun _ => hbad c⟩) (fun c => absurd c (by decide)) (fun c => absurd c (by decide)))⟩)
  have r0 : RD T Gp Ph Hd Th (st τ 0 0 0) := hR.frame RF.put0
  obtain ⟨r1, r2, r3, r4, r5⟩ := id r0
  have k1 : st τ 0 0 0 0 1 = τ 0 1 := st_other (by decide)
  have k3 : st τ 0 0 0 0 3 = τ 0 3 := st_other (by decide)
  generalize st τ 0 0 0 = s at *
  have end3 : ∀ v, (a = 0 ∨ a = 1 ∨ a = 2 → post v s) → G143 a v s := fun v hv => by
    refine h143 _ _ _ ⟨fun c => ?_, fun c => ?_⟩
    · have n3 : a = 3 ∨ a = 4 := by
        rcases count_arg (a := a) with (q | q) | q | q | q | q | q
        · exact absurd q c1
        · exact absurd q c2
        · rw [q] at c; exact absurd c (by decide)
        · rw [q] at c; exact absurd c (by decide)
        · rw [q] at c; exact absurd c (by decide)
        · exact Or.inl q
        · exact Or.inr q
      rw [k1]
      refine ⟨fun d => ⟨fun d3 => ?_, fun d3 => h3 d3 d⟩, fun d => hn n3 d⟩
      rcases n3 with q | q
      · exact absurd q d3
      · rw [k3]; exact h4 q d
    · refine hv ?_
      rcases count_arg (a := a) with (q | q) | q | q | q | q | q
      · exact absurd q c1
      · exact absurd q c2
      · exact Or.inl q
      · exact Or.inr (Or.inl q)
      · exact Or.inr (Or.inr q)
      · rw [q] at c; exact absurd (by decide) c
      · rw [q] at c; exact absurd (by decide) c
  have l3 : ∀ v, (¬ a = 2 → G143 a v s) → (a = 2 → v = 0) → G100 a v 0 s := fun v hv h0' => by
    by_cases q : a = 2
    · rw [h0' q]
      refine upto 16 (fun x (_ : Unit) => G100 a (nI (cnt x (lds Gp Th))) (nI x) s) (fun _ _ => True) (fun _ _ => ?_) (fun x _ hx _ ih => ?_) 0 () (Nat.zero_le _) trivial
      · exact h100 _ _ _ _ ⟨fun _ => end3 _ (fun _ => h2 q), fun c => absurd ((le16 (by omega)).mpr (by omega)) c⟩
      · have ih : G100 a (nI (cnt (x + 1) (lds Gp Th))) (nI (x + 1)) s := ih () trivial
        have no : lds Gp Th x = false → G135 a (nI x) (nI (cnt x (lds Gp Th))) 0 s := fun hl => h135 _ _ _ _ _ (fun v11 e11 => by
          rw [cnt_0 hl] at ih
          rw [e11, Int32.add_zero, nI_1]; exact ih)
        refine h100 _ _ _ _ ⟨fun c => absurd ((le16 (by omega)).mp c) (by omega), fun _ => ⟨fun c => absurd q c, fun _ => ⟨in16 hx, ?_⟩⟩⟩
        rw [cl (by omega : x < 2 ^ 31), r2 x hx, nIx (by have := hW.lt hx; omega) (by omega)]
        refine ⟨fun c => no ?_, fun c => sp_isThere r2 r5 (fun c hc => hW.lt hc) hx ⟨fun c2 => no (b2i_0.mp c2), fun c2 => h135 _ _ _ _ _ (fun v11 e11 => ?_)⟩⟩
        · cases hl : lds Gp Th x
          · rfl
          · exact absurd (lds_fix hW hl) c
        · rw [cnt_1 (b2i_ne c2)] at ih
          rw [e11, nI_1, nI_1]; exact ih
    · exact h100 _ _ _ _ ⟨fun _ => hv q, fun _ => ⟨fun _ => hv q, fun c => absurd c q⟩⟩
  have l2 : ∀ v, (¬ a = 1 → G100 a v 0 s) → (a = 1 → v = 0) → G63 a v 0 s := fun v hv h0' => by
    by_cases q : a = 1
    · rw [h0' q]
      refine upto 256 (fun x (_ : Unit) => G63 a (nI (cnt x (fun k => T (k / 16) (k % 16)))) (nI x) s) (fun _ _ => True) (fun _ _ => ?_) (fun x _ hx _ ih => ?_) 0 () (Nat.zero_le _) trivial
      · exact h63 _ _ _ _ ⟨fun _ => l3 _ (fun _ => end3 _ (fun _ => h1 q)) (fun c => by rw [q] at c; exact absurd c (by decide)), fun c => absurd ((le256 (by omega)).mpr (by omega)) c⟩
      · have ih : G63 a (nI (cnt (x + 1) (fun k => T (k / 16) (k % 16)))) (nI (x + 1)) s := ih () trivial
        have er := r1 (x / 16) (x % 16) (by omega) (by omega)
        rw [show 16 * (x / 16) + x % 16 = x by omega] at er
        refine h63 _ _ _ _ ⟨fun c => absurd ((le256 (by omega)).mp c) (by omega), fun _ => ⟨fun c => absurd q c, fun _ => ⟨in256 hx, ?_⟩⟩⟩
        rw [cl (by omega : x < 2 ^ 31), er]
        refine ⟨fun c => h90 _ _ _ _ _ (fun v8 e8 => ?_), fun c => h90 _ _ _ _ _ (fun v8 e8 => ?_)⟩
        · rw [cnt_0 (q := fun k => T (k / 16) (k % 16)) (b2i_0.mp c)] at ih
          rw [e8, Int32.add_zero, nI_1]; exact ih
        · rw [cnt_1 (q := fun k => T (k / 16) (k % 16)) (b2i_ne c)] at ih
          rw [e8, nI_1, nI_1]; exact ih
    · exact h63 _ _ _ _ ⟨fun _ => hv q, fun _ => ⟨fun _ => hv q, fun c => absurd c q⟩⟩
  by_cases q : a = 0
  · refine upto 16 (fun x (_ : Unit) => G28 a (nI (cnt x Th)) (nI x) s) (fun _ _ => True) (fun _ _ => ?_) (fun x _ hx _ ih => ?_) 0 () (Nat.zero_le _) trivial
    · exact h28 _ _ _ _ ⟨fun _ => l2 _ (fun _ => l3 _ (fun _ => end3 _ (fun _ => h0 q)) (fun c => by rw [q] at c; exact absurd c (by decide))) (fun c => by rw [q] at c; exact absurd c (by decide)), fun c => absurd ((le16 (by omega)).mpr (by omega)) c⟩
    · have ih : G28 a (nI (cnt (x + 1) Th)) (nI (x + 1)) s := ih () trivial
      refine h28 _ _ _ _ ⟨fun c => absurd ((le16 (by omega)).mp c) (by omega), fun _ => ⟨fun c => absurd q c, fun _ => ⟨in16 hx, ?_⟩⟩⟩
      rw [cl (by omega : x < 2 ^ 31), r5 x hx]
      refine ⟨fun c => h53 _ _ _ _ _ (fun v5 e5 => ?_), fun c => h53 _ _ _ _ _ (fun v5 e5 => ?_)⟩
      · rw [cnt_0 (b2i_0.mp c)] at ih
        rw [e5, Int32.add_zero, nI_1]; exact ih
      · rw [cnt_1 (b2i_ne c)] at ih
        rw [e5, nI_1, nI_1]; exact ih
  · have nx : G63 a 0 0 s := l2 0 (fun n1 => l3 0 (fun n2 => end3 0 (fun q' => by
      rcases q' with q' | q' | q'
      · exact absurd q' q
      · exact absurd q' n1
      · exact absurd q' n2)) (fun _ => rfl)) (fun _ => rfl)
    exact h28 _ _ _ _ ⟨fun _ => nx, fun _ => ⟨fun _ => nx, fun c => absurd c q⟩⟩
theorem step_count {g : Nat → Int64} (h : InvP Sht σ τ) (a : Int32) : Sp_L_count a σ g (fun k σ1 g1 => Sp_R_count a τ (fun bb τ1 => Sp_R_thrown τ1 (fun th τ2 => th = k ∧ (k = 0 → g1 0 = bb.toInt64) ∧ K0 Sht σ1 τ2 g1))) := by
  obtain ⟨T, Gp, Ph, Hd, Th, hW, hC, hR, hS⟩ := id h
  have no : ∀ {x y : Int32} {P : Prop}, ¬ x = y → a = x → a = y → P := fun h1 h2 h3 => absurd (h2.symm.trans h3) h1
  have ok : ∀ {x : Int32} {P : Prop}, ¬ x < 0 ∧ ¬ (4 : Int32) < x → a = x → (a < 0 ∨ 4 < a) → P := fun {x P} h1 h2 h3 => by
    rw [h2] at h3
    rcases h3 with q | q
    · exact absurd q h1.1
    · exact absurd q h1.2
  unfold Sp_L_count Sp_M_count
  refine ⟨⟨fun q => ?_, fun q => ?_, fun q => ?_, fun q => ⟨fun z => ?_, fun z => ?_⟩, fun q => ⟨fun z => ?_, fun z => ?_⟩⟩, fun q => ⟨rfl, ?_⟩⟩
  · refine sp_bitCount hC.2.2.2.1 (rf_count hR hW (fun c => ok (by decide) q c) (fun _ => ?_) (no (by decide) q) (no (by decide) q) (fun c => c.elim (no (by decide) q) (no (by decide) q)) (no (by decide) q) (no (by decide) q))
    exact both g_0 (st_same _ _ _ _) (h.frame ShtF RF.put0)
  · refine rf_count hR hW (fun c => ok (by decide) q c) (no (by decide) q) (fun _ => ?_) (no (by decide) q) (fun c => c.elim (no (by decide) q) (no (by decide) q)) (no (by decide) q) (no (by decide) q)
    rw [hC.2.2.2.2.2.1]
    exact both g_0 (st_same _ _ _ _) (h.frame ShtF RF.put0)
  · refine sp_leadersOf hC.2.2.2.1 hC.1 (fun c hc => hW.lt hc) (fun r hr => sp_bitCount hr (rf_count hR hW (fun c => ok (by decide) q c) (no (by decide) q) (no (by decide) q) (fun _ => ?_) (fun c => c.elim (no (by decide) q) (no (by decide) q)) (no (by decide) q) (no (by decide) q)))
    exact both g_0 (st_same _ _ _ _) (h.frame ShtF RF.put0)
  · have s1 : τ 0 1 = 0 := by
      rcases hS with ⟨s0, s1⟩ | ⟨s0, s1, _⟩
      · exact s1
      · rw [s0] at z; exact absurd z (by decide)
    exact rf_count hR hW (fun c => ok (by decide) q c) (no (by decide) q) (no (by decide) q) (no (by decide) q) (fun _ _ => both g_0 (st_same _ _ _ _) (h.frame ShtF RF.put0)) (fun _ c => absurd s1 c) (no (by decide) q)
  · rcases hS with ⟨s0, s1⟩ | ⟨s0, s1, hp, its, hits, ⟨sc, sc8, sc17⟩, sr, sr2, sr16, sr6, cg, cL⟩
    · exact absurd s0 z
    · refine rf_count hR hW (fun c => ok (by decide) q c) (no (by decide) q) (no (by decide) q) (no (by decide) q) (fun _ c => ?_) (fun _ _ => ?_) (no (by decide) q)
      · rw [s1] at c; exact absurd c (by decide)
      · refine sp_lastRow hp (hR.frame RF.put0) hW rfl (fun i hi => by rw [st_ne (by decide)]; exact sr.1.2.2.2.2.1 i hi) ?_
        have e : nI (pOf T Gp Ph Hd Th).R - 1 + 1 = nI (pOf T Gp Ph Hd Th).R := by rw [Int32.sub_add_cancel]
        rw [sc.1.2.2.2.1, e]
        exact both g_0 (st_same _ _ _ _) (h.frame ShtF RF.put0)
  · have s1 : τ 0 1 = 0 := by
      rcases hS with ⟨s0, s1⟩ | ⟨s0, s1, _⟩
      · exact s1
      · rw [s0] at z; exact absurd z (by decide)
    exact rf_count hR hW (fun c => ok (by decide) q c) (no (by decide) q) (no (by decide) q) (no (by decide) q) (fun _ _ => both g_0 (st_same _ _ _ _) (h.frame ShtF RF.put0)) (no (by decide) q) (fun _ c => absurd s1 c)
  · rcases hS with ⟨s0, s1⟩ | ⟨s0, s1, hp, its, hits, ⟨sc, sc8, sc17⟩, sr, sr2, sr16, sr6, cg, cL⟩
    · exact absurd s0 z
    · refine rf_count hR hW (fun c => ok (by decide) q c) (no (by decide) q) (no (by decide) q) (no (by decide) q) (fun _ c => ?_) (no (by decide) q) (fun _ _ => ?_)
      · rw [s1] at c; exact absurd c (by decide)
      · rw [sc.1.2.2.2.2.2.2, sr.1.1]
        exact both g_0 (st_same _ _ _ _) (h.frame ShtF RF.put0)
  · exact rf_count hR hW (fun _ => threw (r := 0) (by decide) (st_same _ _ _ _) (h.frame ShtF RF.put0)) (fun c => absurd c q.1) (fun c => absurd c q.2.1) (fun c => absurd c q.2.2.1) (fun c => c.elim (fun c => absurd c q.2.2.2.1) (fun c => absurd c q.2.2.2.2)) (fun c => absurd c q.2.2.2.1) (fun c => absurd c q.2.2.2.2)
end
