/-! The reference's links, bends, pieces and first places. -/
def Pn.rI (p : Pn) (i : Nat) : Int32 := if p.ir i = 16 then -1 else nI (p.ir i)
/-- a plan, though it may have too many bends -/
def PW (p : Pn) : Prop := p.R ≤ 16 ∧ p.n ≤ 120 ∧ (∀ k, k < p.n → p.U k < 16 ∧ p.W k < 16 ∧ p.dr (p.U k) = true ∧ p.dr (p.W k) = true ∧ p.ro (p.U k) < p.ro (p.W k)) ∧ (∀ g, g < 16 → p.dr g = true → p.ro g < p.R) ∧ (∀ r, r < p.R → ∃ g, g < 16 ∧ p.dr g = true ∧ p.ro g = r)
theorem PW.pk {p : Pn} (h : PW p) (h2 : p.fb p.n ≤ 150) : PK p := ⟨h.1, h.2.1, h.2.2.1, h.2.2.2.1, h2, h.2.2.2.2⟩
theorem PW.link {p : Pn} (h : PW p) {k : Nat} (hk : k < p.n) : p.U k < 16 ∧ p.W k < 16 ∧ p.dr (p.U k) = true ∧ p.dr (p.W k) = true ∧ p.ro (p.U k) + p.nb k + 1 = p.ro (p.W k) ∧ p.ro (p.W k) < p.R := by
  obtain ⟨a, b, c, d, e⟩ := h.2.2.1 k hk
  exact ⟨a, b, c, d, by unfold Pn.nb; omega, h.2.2.2.1 _ b d⟩
theorem PW.fb (p : Pn) (h : PW p) {k : Nat} (hk : k ≤ p.n) : p.fb k ≤ 1680 := by
  have h1 : sumN k p.nb ≤ k * 14 := sumN_le k (fun j hj => by have := h.link (show j < p.n by omega); have := h.1; omega)
  have := h.2.1
  unfold Pn.fb; omega
/-- links as the reference keeps them -/
def RL0 (p : Pn) (n : Nat) (τ : S0) : Prop := ∀ k, k < n → τ 13 k = nI (p.U k) ∧ τ 14 k = nI (p.W k) ∧ τ 15 k = nI (16 + p.fb k)
def RP (p : Pn) (τ : S0) : Prop := τ 0 3 = nI (p.fb p.n) ∧ τ 0 4 = nI (p.fb p.n + p.n) ∧ τ 0 5 = nI p.n ∧ RL0 p p.n τ ∧ (∀ i, i < p.N → τ 8 i = p.rI i) ∧ ∀ k j, k < p.n → j ≤ p.nb k → τ 11 (p.fb k + k + j) = nI (p.pt k j) ∧ τ 12 (p.fb k + k + j) = nI (p.pt k (j + 1))
section
variable {p : Pn} {σ τ : S0}
theorem in240 {k : Nat} (h : k < 240) : vp_in (nI k) 240 := vp_in_nI h (by omega)
theorem in400 {k : Nat} (h : k < 400) : vp_in (nI k) 400 := vp_in_nI h (by omega)
theorem sp_rbends (hp : PW p) {m k : Nat} (hl : RL0 p m τ) (hm : m ≤ p.n) (h8 : ∀ g, g < 16 → p.dr g = true → τ 8 g = nI (p.ro g)) (hk : k < m) {post : Int32 → S0 → Prop} (h : post (nI (p.nb k)) τ) : Sp_R_bendsOf (nI k) τ post := by
  obtain ⟨a1, a2, a3, a4, a5, a6⟩ := hp.link (show k < p.n by omega)
  have hb := hp.2.1
  obtain ⟨l1, l2, l3⟩ := hl k hk
  unfold Sp_R_bendsOf
  rw [cl (by omega : k < 2 ^ 31), l1, l2, cl (by omega : p.U k < 2 ^ 31), cl (by omega : p.W k < 2 ^ 31), h8 _ a1 a3, h8 _ a2 a4, sub1 (by omega)]
  exact ⟨in240 (by omega), in166 (by omega), in240 (by omega), in166 (by omega), h⟩
/-- pieces and rows of the links before k, and j of link k -/
def FB (p : Pn) (σ : S0) (k j : Nat) (s : S0) : Prop := (∀ b, b ≠ 0 → b ≠ 8 → b ≠ 11 → b ≠ 12 → s b = σ b) ∧ (∀ i, i ≠ 4 → s 0 i = σ 0 i) ∧ s 0 4 = nI (p.fb k + k + j) ∧ (∀ k' j', ((k' < k ∧ j' ≤ p.nb k') ∨ (k' = k ∧ j' < j)) → s 11 (p.fb k' + k' + j') = nI (p.pt k' j') ∧ s 12 (p.fb k' + k' + j') = nI (p.pt k' (j' + 1))) ∧ (∀ k' j', j' < p.nb k' → (k' < k ∨ (k' = k ∧ j' < j)) → s 8 (16 + p.fb k' + j') = nI (p.ro (p.U k') + 1 + j')) ∧ ∀ g, g < 16 → s 8 g = σ 8 g
theorem FB.add (hp : PK p) {k j : Nat} {s : S0} (hk : k < p.n) (hj : j ≤ p.nb k) (h : FB p σ k j s) (hrow : j < p.nb k → s 8 (16 + p.fb k + j) = nI (p.ro (p.U k) + 1 + j)) {post : S0 → Prop} (hpost : ∀ s', FB p σ k (j + 1) s' → post s') : Sp_R_addPiece (nI (p.pt k j)) (nI (p.pt k (j + 1))) s post := by
  obtain ⟨a, b, c, d, e, f⟩ := h
  have h1 := hp.fb150 (Nat.le_refl _)
  have h2 := hp.n120
  have h3 := fb_mono (p := p) (show k + 1 ≤ p.n by omega)
  rw [fb_s] at h3
  unfold Sp_R_addPiece
  rw [c, cl (by omega : p.fb k + k + j < 2 ^ 31)]
  refine ⟨in400 (by omega), fun σ1 e1 => ?_⟩
  have c1 : σ1 0 4 = nI (p.fb k + k + j) := by rw [e1, st_ne (by decide)]; exact c
  rw [c1, cl (by omega : p.fb k + k + j < 2 ^ 31)]
  refine ⟨in400 (by omega), fun σ2 e2 σ3 e3 => ?_⟩
  have keep : ∀ b, b ≠ 0 → b ≠ 11 → b ≠ 12 → σ3 b = s b := fun b h0 h1 h2 => by rw [e3, st_ne h0, e2, st_ne h2, e1, st_ne h1]
  refine hpost σ3 ⟨fun b h0 h8 h11 h12 => by rw [keep b h0 h11 h12]; exact a b h0 h8 h11 h12, fun i hi => by rw [e3, st_other hi, e2, st_ne (by decide), e1, st_ne (by decide)]; exact b i hi, ?_, fun k' j' hkj => ?_, fun k' j' hj' hkj => ?_, fun g hg => by rw [keep 8 (by decide) (by decide) (by decide)]; exact f g hg⟩
  · rw [e3, st_same, e2, st_ne (by decide), c1, nI_1]; rfl
  · rw [e3, st_ne (by decide), st_ne (by decide), e2, st_ne (by decide), st_app, e1, st_app, st_ne (by decide)]
    by_cases q : k' = k ∧ j' = j
    · rw [q.1, q.2]; simp
    · have hlt : p.fb k' + k' + j' < p.fb k + k + j := by
        rcases hkj with ⟨x1, x2⟩ | ⟨x1, x2⟩
        · have := fb_mono (p := p) (show k' + 1 ≤ k by omega)
          rw [fb_s] at this; omega
        · subst x1
          have : j' < j := by omega
          omega
      rw [if_neg (by omega), if_neg (by omega)]
      refine d k' j' ?_
      rcases hkj with x | ⟨x1, x2⟩
      · exact Or.inl x
      · exact Or.inr ⟨x1, by omega⟩
  · rw [keep 8 (by decide) (by decide) (by decide)]
    by_cases q : k' = k ∧ j' = j
    · obtain ⟨rfl, rfl⟩ := q; exact hrow hj'
    · refine e k' j' hj' ?_
      rcases hkj with x | ⟨x1, x2⟩
      · exact Or.inl x
      · exact Or.inr ⟨x1, by omega⟩
set_option maxHeartbeats 1000000 in
theorem sp_findBends {lq : Nat → Bool} (hp : PW p) (hn : p.n = cnt 256 lq) (hU : ∀ k, p.U k = nthx lq 256 k / 16) (hW : ∀ k, p.W k = nthx lq 256 k % 16) (h7 : ∀ k, k < 256 → τ 7 k = b2i (lq k)) (h8 : ∀ g, g < 16 → τ 8 g = if p.dr g = true then nI (p.ro g) else -1) {post : Int32 → S0 → Prop}
    (hno : ¬ p.fb p.n ≤ 150 → ∀ τ', (∀ b, b ≠ 0 → b < 8 → τ' b = τ b) → (∀ i, i < 3 → τ' 0 i = τ 0 i) → post 0 τ')
    (hyes : p.fb p.n ≤ 150 → ∀ τ', (∀ b, b ≠ 0 → b < 8 → τ' b = τ b) → (∀ i, i < 3 → τ' 0 i = τ 0 i) → RP p τ' → post 1 τ') : Sp_R_findBends τ post := by
  have h120 := hp.2.1
  have hgr : ∀ (s : S0), (∀ g, g < 16 → s 8 g = τ 8 g) → ∀ g, g < 16 → p.dr g = true → s 8 g = nI (p.ro g) := fun s hs g hg hd => by rw [hs g hg, h8 g hg, if_pos hd]
  unfold Sp_R_findBends
  intro G17 G125 G142 h17 h125 h142 σ1 e1 σ2 e2 σ3 e3
  have loop2 : p.fb p.n ≤ 150 → ∀ (s0 : S0), s0 0 5 = nI p.n → s0 0 3 = nI (p.fb p.n) → RL0 p p.n s0 → (∀ b, b ≠ 0 → b < 9 → s0 b = τ b) → (∀ i, i < 3 → s0 0 i = τ 0 i) → s0 0 4 = 0 → G125 0 s0 := by
    intro h150 s0 t5 t3 tl tf tf0 t4
    have hk : PK p := hp.pk h150
    have lks : ∀ {k j : Nat} {s : S0}, FB p s0 k j s → RL0 p p.n s := fun hF i hi => by rw [hF.1 13 (by decide) (by decide) (by decide) (by decide), hF.1 14 (by decide) (by decide) (by decide) (by decide), hF.1 15 (by decide) (by decide) (by decide) (by decide)]; exact tl i hi
    have grs : ∀ {k j : Nat} {s : S0}, FB p s0 k j s → ∀ g, g < 16 → p.dr g = true → s 8 g = nI (p.ro g) := fun {k j s} hF => hgr s (fun g hg => by rw [hF.2.2.2.2.2 g hg, tf 8 (by decide) (by decide)])
    refine upto p.n (fun k s => G125 (nI k) s) (fun k s => FB p s0 k 0 s) (fun s hI => ?_) (fun k s hkn hI ih => ?_) 0 s0 (Nat.zero_le _) ⟨fun _ _ _ _ _ => rfl, fun _ _ => rfl, t4, fun k' j' q => by omega, fun k' j' _ q => by omega, fun _ _ => rfl⟩
    · have x5 : s 0 5 = nI p.n := by rw [hI.2.1 5 (by decide)]; exact t5
      refine h125 _ _ ⟨fun _ => hyes h150 s (fun b h0 hb => by rw [hI.1 b h0 (by omega) (by omega) (by omega)]; exact tf b h0 (by omega)) (fun i hi => by rw [hI.2.1 i (by omega)]; exact tf0 i hi) ⟨by rw [hI.2.1 3 (by decide)]; exact t3, hI.2.2.1, x5, lks hI, fun i hi => ?_, fun k j hk' hj => hI.2.2.2.1 k j (Or.inl ⟨hk', hj⟩)⟩, fun c => absurd (by rw [x5]; exact nI_le (Nat.le_refl _) (by omega)) c⟩
      unfold Pn.rI
      by_cases q : i < 16
      · rw [hI.2.2.2.2.2 i q, tf 8 (by decide) (by decide), h8 i q]
        cases hd : p.dr i
        · rw [ir_n q hd]; rfl
        · have := hk.2.2.2.1 i q hd
          have := hk.R16
          rw [ir_g q hd, if_neg (show ¬ p.ro i = 16 by omega)]; rfl
      · obtain ⟨k, j, hk', hj, e⟩ := bend_ex (by omega) hi
        have hl := hk.link hk'
        have := hk.R16
        rw [e, ir_b hk' hj, if_neg (by omega)]
        exact hI.2.2.2.2.1 k j hj (Or.inl hk')
    · obtain ⟨l1, l2, l3, l4, l5, l6⟩ := hk.link hkn
      have h14 := hk.nb14 hkn
      have x5 : s 0 5 = nI p.n := by rw [hI.2.1 5 (by decide)]; exact t5
      have hfb := fb_mono (p := p) (show k + 1 ≤ p.n by omega)
      rw [fb_s] at hfb
      refine h125 _ _ ⟨fun c => absurd (leN x5 c (by omega) (by omega)) (by omega), fun _ => ⟨in240 (by omega), fun v11 e11 => ?_⟩⟩
      rw [e11, cl (by omega : k < 2 ^ 31), (lks hI k hkn).1, ← pt_0]
      refine upto (p.nb k) (fun j s => G142 (nI k) (nI (p.pt k j)) (nI j) s) (fun j s => FB p s0 k j s) (fun s hJ => ?_) (fun j s hj hJ ih2 => ?_) 0 s (Nat.zero_le _) hI
      · refine h142 _ _ _ _ (sp_rbends hp (lks hJ) (Nat.le_refl _) (grs hJ) hkn ⟨fun _ => ⟨in240 (by omega), ?_⟩, fun c => absurd (nI_le (Nat.le_refl _) (by omega)) c⟩)
        rw [cl (by omega : k < 2 ^ 31), (lks hJ k hkn).2.1, ← pt_e]
        refine hJ.add hk hkn (Nat.le_refl _) (fun c => absurd c (by omega)) (fun s' hF => ?_)
        rw [nI_1]
        obtain ⟨a, b, c, d, e, f⟩ := hF
        refine ih s' ⟨a, b, by rw [c, fb_s]; congr 1; omega, fun k' j' q => d k' j' ?_, fun k' j' q1 q2 => e k' j' q1 ?_, f⟩
        · rcases q with ⟨x1, x2⟩ | ⟨x1, x2⟩
          · by_cases z : k' = k
            · subst z; exact Or.inr ⟨rfl, by omega⟩
            · exact Or.inl ⟨by omega, x2⟩
          · omega
        · rcases q2 with x1 | ⟨x1, x2⟩
          · by_cases z : k' = k
            · subst z; exact Or.inr ⟨rfl, by omega⟩
            · exact Or.inl (by omega)
          · omega
      · refine h142 _ _ _ _ (sp_rbends hp (lks hJ) (Nat.le_refl _) (grs hJ) hkn ⟨fun c => absurd ((nI_leI (by omega) (by omega)).mp c) (by omega), fun _ => ⟨in240 (by omega), in240 (by omega), ?_⟩⟩)
        rw [cl (by omega : k < 2 ^ 31), (lks hJ k hkn).1, (lks hJ k hkn).2.2, cl (by omega : p.U k < 2 ^ 31), grs hJ _ l1 l3, nI_add, nI_1, nI_1, nI_add, cl (by omega : 16 + p.fb k + j < 2 ^ 31)]
        refine ⟨in166 (by omega), in166 (by omega), fun σ15 e15 => ⟨in240 (by omega), ?_⟩⟩
        have hJ15 : FB p s0 k j σ15 := by
          obtain ⟨a, b, c, d, e, f⟩ := hJ
          refine ⟨fun b' h0 h8 h11 h12 => by rw [e15, st_ne h8]; exact a b' h0 h8 h11 h12, fun i hi => by rw [e15, st_ne (by decide)]; exact b i hi, by rw [e15, st_ne (by decide)]; exact c, fun k' j' q => by rw [e15, st_ne (by decide), st_ne (by decide)]; exact d k' j' q, fun k' j' q1 q2 => ?_, fun g hg => by rw [e15, st_other (by omega)]; exact f g hg⟩
          rw [e15, st_app, if_neg]
          · exact e k' j' q1 q2
          · rintro ⟨_, z⟩
            rcases q2 with x | ⟨rfl, x⟩
            · have := fb_mono (p := p) (show k' + 1 ≤ k by omega)
              rw [fb_s] at this; omega
            · omega
        rw [(lks hJ15 k hkn).2.2, nI_add, ← pt_b hj]
        refine hJ15.add hk hkn (by omega) (fun _ => by rw [e15, st_same]) (fun s' hF => ⟨in240 (by omega), fun v17 e17 => ?_⟩)
        rw [(lks hF k hkn).2.2, nI_add, ← pt_b hj] at e17
        rw [e17]
        exact ih2 s' hF
  have loop1 : ∀ x s, x ≤ 256 → ((∀ b, b ≠ 0 → b < 9 → s b = τ b) ∧ (∀ i, i < 3 → s 0 i = τ 0 i) ∧ s 0 4 = 0 ∧ s 0 5 = nI (cnt x lq) ∧ s 0 3 = nI (p.fb (cnt x lq)) ∧ RL0 p (cnt x lq) s) → G17 (nI x) s := by
    refine upto 256 (fun x s => G17 (nI x) s) _ (fun s hI => ?_) (fun x s hx hI ih => ?_)
    · obtain ⟨i1, i2, i3, i4, i5, i6⟩ := hI
      rw [← hn] at i4 i5 i6
      have hfb := hp.fb p (Nat.le_refl _)
      refine h17 _ _ ⟨fun _ => ⟨fun c => ?_, fun c => ?_⟩, fun c => absurd ((le256 (by omega)).mpr (by omega)) c⟩
      · rw [i5, show (150 : Int32) = nI 150 from rfl, nI_leI (by omega) (by omega)] at c
        exact loop2 c s i4 i5 i6 i1 i2 i3
      · rw [i5, show (150 : Int32) = nI 150 from rfl, nI_leI (by omega) (by omega)] at c
        exact hno c s (fun b h0 hb => i1 b h0 (by omega)) i2
    · obtain ⟨i1, i2, i3, i4, i5, i6⟩ := hI
      refine h17 _ _ ⟨fun c => absurd ((le256 (by omega)).mp c) (by omega), fun _ => ⟨in256 hx, ?_⟩⟩
      rw [d16 hx, m16 hx, nI_1, cl (by omega : x < 2 ^ 31), i1 7 (by decide) (by decide), h7 x hx]
      refine ⟨fun c => ?_, fun c => ?_⟩
      · have hq := b2i_ne c
        have hc : cnt x lq < p.n := by rw [hn]; exact cnt_lt_of hx hq
        have hcs : cnt (x + 1) lq = cnt x lq + 1 := by rw [cnt, if_pos hq]
        rw [hcs] at ih
        rw [i4, cl (by omega : cnt x lq < 2 ^ 31)]
        refine ⟨in240 (by omega), fun σ4 e4 => ?_⟩
        have y4 : σ4 0 5 = nI (cnt x lq) := by rw [e4, st_ne (by decide)]; exact i4
        rw [y4, cl (by omega : cnt x lq < 2 ^ 31)]
        refine ⟨in240 (by omega), fun σ5 e5 => ?_⟩
        have y5 : σ5 0 5 = nI (cnt x lq) := by rw [e5, st_ne (by decide)]; exact y4
        have z5 : σ5 0 3 = nI (p.fb (cnt x lq)) := by rw [e5, st_ne (by decide), e4, st_ne (by decide)]; exact i5
        rw [y5, cl (by omega : cnt x lq < 2 ^ 31), z5]
        refine ⟨in240 (by omega), fun σ6 e6 => ?_⟩
        have y6 : σ6 0 5 = nI (cnt x lq) := by rw [e6, st_ne (by decide)]; exact y5
        have z6 : σ6 0 3 = nI (p.fb (cnt x lq)) := by rw [e6, st_ne (by decide)]; exact z5
        rw [y6, z6]
        have hUx : p.U (cnt x lq) = x / 16 := by rw [hU, nthx_cnt hx hq]
        have hWx : p.W (cnt x lq) = x % 16 := by rw [hW, nthx_cnt hx hq]
        have l6 : RL0 p (cnt x lq + 1) σ6 := fun k hk => by
          rw [e6, st_ne (by decide), st_ne (by decide), st_app, e5, st_ne (by decide), st_app, st_ne (by decide), e4, st_app, st_ne (by decide), st_ne (by decide)]
          by_cases q : k = cnt x lq
          · rw [q, if_pos ⟨rfl, rfl⟩, if_pos ⟨rfl, rfl⟩, if_pos ⟨rfl, rfl⟩, hUx, hWx, show (16 : Int32) = nI 16 from rfl, nI_add]; exact ⟨rfl, rfl, rfl⟩
          · rw [if_neg (fun z => q z.2), if_neg (fun z => q z.2), if_neg (fun z => q z.2)]; exact i6 k (by omega)
        have k6 : ∀ b, b < 9 → σ6 b = s b := fun b hb => by rw [e6, st_ne (by omega), e5, st_ne (by omega), e4, st_ne (by omega)]
        refine sp_rbends hp l6 (by omega) (hgr σ6 (fun g hg => by rw [k6 8 (by omega), i1 8 (by decide) (by decide)])) (by omega) (fun σ9 e9 σ10 e10 => ?_)
        have y9 : σ9 0 5 = nI (cnt x lq) := by rw [e9, st_other (by decide)]; exact y6
        refine ih σ10 ⟨fun b h0 hb => by rw [e10, st_ne h0, e9, st_ne h0, k6 b hb]; exact i1 b h0 hb, fun i hi => by rw [e10, st_other (by omega), e9, st_other (by omega), k6 0 (by omega)]; exact i2 i hi, by rw [e10, st_other (by decide), e9, st_other (by decide), k6 0 (by omega)]; exact i3, by rw [e10, st_same, y9, nI_1], by rw [e10, st_other (by decide), e9, st_same, nI_add]; rfl, fun k hk => by rw [e10, st_ne (by decide), st_ne (by decide), st_ne (by decide), e9, st_ne (by decide), st_ne (by decide), st_ne (by decide)]; exact l6 k hk⟩
      · have hq := b2i_0.mp c
        have hcs : cnt (x + 1) lq = cnt x lq := by rw [cnt, hq]; rfl
        rw [hcs] at ih
        exact ih s ⟨i1, i2, i3, i4, i5, i6⟩
  refine loop1 0 σ3 (by omega) ⟨fun b h0 _ => by rw [e3, st_ne h0, e2, st_ne h0, e1, st_ne h0], fun i hi => by rw [e3, st_other (by omega), e2, st_other (by omega), e1, st_other (by omega)], by rw [e3, st_same], by rw [e3, st_other (by decide), e2, st_other (by decide), e1, st_same]; rfl, by rw [e3, st_other (by decide), e2, st_same]; rfl, fun k hk => absurd hk (by simp [cnt])⟩
end
