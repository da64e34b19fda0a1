/-! The class lays marks and pieces. -/
theorem leN {x : Int32} {a b : Nat} (e : x = nI a) (c : x ≤ nI b) (ha : a < 2 ^ 31) (hb : b < 2 ^ 31) : a ≤ b := by rw [e] at c; exact (nI_leI ha hb).mp c
def PLp (p : Pn) (σ : S0) : Prop := IsSet (σ 0 4) p.dr ∧ σ 0 6 = nI p.n ∧ (∀ k, k < p.n → σ 11 k = nI (p.U k) ∧ σ 12 k = nI (p.W k)) ∧ σ 0 5 = nI p.R ∧ (∀ g, g < 16 → p.dr g = true → σ 10 g = nI (p.ro g)) ∧ (∀ k, k < p.n → σ 15 k = nI (p.fb k)) ∧ σ 0 7 = nI (p.fb p.n)
/-- nothing before the order's own arrays and numbers has changed -/
def OF (σ σ' : S0) : Prop := (∀ b, b ≠ 0 → b < 16 → σ' b = σ b) ∧ ∀ k, k < 8 → σ' 0 k = σ 0 k
theorem OF.rf (σ : S0) : OF σ σ := ⟨fun _ _ _ => rfl, fun _ _ => rfl⟩
theorem OF.trans {a b c : S0} (h1 : OF a b) (h2 : OF b c) : OF a c := ⟨fun k h h' => (h2.1 k h h').trans (h1.1 k h h'), fun k h => (h2.2 k h).trans (h1.2 k h)⟩
theorem OF.st {σ : S0} {a k : Nat} {v : Int32} (h : 16 ≤ a ∨ (a = 0 ∧ 8 ≤ k)) : OF σ (st σ a k v) :=
  ⟨fun b h1 h2 => st_ne (by omega), fun j hj => by rw [st_app, if_neg]; omega⟩
section
variable {p : Pn} {σ τ : S0}
theorem PLp.of {σ' : S0} (h : PLp p σ) (f : OF σ σ') : PLp p σ' := by
  obtain ⟨a, b, c, d, e, g, i⟩ := h
  exact ⟨by rw [f.2 4 (by omega)]; exact a, by rw [f.2 6 (by omega)]; exact b, fun k hk => by rw [f.1 11 (by omega) (by omega), f.1 12 (by omega) (by omega)]; exact c k hk, by rw [f.2 5 (by omega)]; exact d, fun k hk hd => by rw [f.1 10 (by omega) (by omega)]; exact e k hk hd, fun k hk => by rw [f.1 15 (by omega) (by omega)]; exact g k hk, by rw [f.2 7 (by omega)]; exact i⟩
theorem sp_bendsP (hp : PK p) (h : PLp p σ) {k : Nat} (hk : k < p.n) {post : Int32 → S0 → Prop} (hq : post (nI (p.nb k)) σ) : Sp_P_bendsOf (nI k) σ post := by
  obtain ⟨a1, a2, a3, a4, a5, a6⟩ := hp.link hk
  have hb := hp.n120
  have h11 := h.2.2.1 k hk
  unfold Sp_P_bendsOf
  rw [cl (by omega : k < 2 ^ 31), h11.1, h11.2, cl (by omega : p.U k < 2 ^ 31), cl (by omega : p.W k < 2 ^ 31), h.2.2.2.2.1 _ a1 a3, h.2.2.2.2.1 _ a2 a4, sub1 (by omega)]
  exact ⟨in256 (by omega), in16 a2, in256 (by omega), in16 a1, hq⟩
theorem sp_pointOf (hp : PK p) (h : PLp p σ) {k j : Nat} (hk : k < p.n) (hj : j ≤ p.nb k + 1) {post : Int32 → S0 → Prop} (hq : post (nI (p.pt k j)) σ) : Sp_P_pointOf (nI k) (nI j) σ post := by
  have hb := hp.n120
  have h14 := hp.nb14 hk
  have h150 := hp.fb150 (Nat.le_of_lt hk)
  unfold Sp_P_pointOf
  rw [cl (by omega : k < 2 ^ 31)]
  refine ⟨fun c => sp_bendsP hp h hk ⟨fun c2 => ⟨in256 (by omega), ?_⟩, fun c2 => ⟨in256 (by omega), ?_⟩⟩, fun c => ⟨in256 (by omega), ?_⟩⟩
  · have c' : 0 < j := (nI_ltI (a := 0) (by omega) (by omega)).mp c
    rw [nI_leI (by omega) (by omega)] at c2
    obtain ⟨j', rfl⟩ : ∃ j', j = j' + 1 := ⟨j - 1, by omega⟩
    rw [pt_b (by omega)] at hq
    rw [h.2.2.2.2.2.1 k hk, show (16 : Int32) = nI 16 from rfl, nI_add, nI_add, ← Nat.add_assoc, nI_pred]; exact hq
  · rw [nI_leI (by omega) (by omega)] at c2
    have : j = p.nb k + 1 := by omega
    rw [this, pt_e] at hq
    rw [(h.2.2.1 k hk).2]; exact hq
  · have c' : ¬ 0 < j := fun z => c ((nI_ltI (a := 0) (by omega) (by omega)).mpr z)
    have : j = 0 := by omega
    rw [this, pt_0] at hq
    rw [(h.2.2.1 k hk).1]; exact hq
theorem sp_number {s n r : Nat} {L : Nat → Nat} (hr : r < 17) (h20 : σ 20 r = nI s) (hn : s + n ≤ 166) (hL : ∀ j, j < n → σ 18 (s + j) = nI (L j) ∧ L j < 166) (hi : ∀ a b, a < n → b < n → L a = L b → a = b) {post : S0 → Prop}
    (h : ∀ σ', (∀ b, b ≠ 16 → σ' b = σ b) → (∀ j, j < n → σ' 16 (L j) = nI j) → (∀ i, (∀ j, j < n → L j ≠ i) → σ' 16 i = σ 16 i) → post σ') : Sp_O_numberPlaces (nI r) (nI (s + n)) σ post := by
  unfold Sp_O_numberPlaces
  intro G7 h7
  refine ⟨vp_in_nI hr (by omega), fun v1 e1 => ?_⟩
  rw [e1, cl (by omega : r < 2 ^ 31), h20]
  refine upto n (fun m t => G7 (nI r) (nI (s + n)) (nI (s + m)) t) (fun m t => (∀ b, b ≠ 16 → t b = σ b) ∧ (∀ j, j < m → t 16 (L j) = nI j) ∧ (∀ i, (∀ j, j < n → L j ≠ i) → t 16 i = σ 16 i)) (fun t hI => ?_) (fun m t hm hI ih => ?_) 0 σ (Nat.zero_le _) ⟨fun _ _ => rfl, fun j hj => absurd hj (by omega), fun _ _ => rfl⟩
  · exact h7 _ _ _ _ ⟨fun _ => h t hI.1 hI.2.1 hI.2.2, fun c => absurd (nI_le (Nat.le_refl _) (by omega)) c⟩
  · obtain ⟨i1, i2, i3⟩ := hI
    obtain ⟨l1, l2⟩ := hL m hm
    refine h7 _ _ _ _ ⟨fun c => absurd ((nI_leI (by omega) (by omega)).mp c) (by omega), fun _ => ?_⟩
    rw [cl (by omega : s + m < 2 ^ 31), cl (by omega : r < 2 ^ 31), i1 18 (by decide), i1 20 (by decide), l1, h20, cl (by omega : L m < 2 ^ 31), pk_sub (by omega), show s + m - s = m by omega]
    refine ⟨in166 (by omega), vp_in_nI hr (by omega), in166 l2, fun σ2 e2 => ?_⟩
    rw [nI_1]
    refine ih σ2 ⟨fun b hb => by rw [e2, st_ne hb]; exact i1 b hb, fun j hj => ?_, fun i hne => ?_⟩
    · rw [e2, st_app]
      by_cases q : j = m
      · rw [q, if_pos ⟨rfl, rfl⟩]
      · rw [if_neg (fun z => q (hi j m (by omega) hm z.2))]; exact i2 j (by omega)
    · rw [e2, st_app, if_neg (fun z => hne m hm z.2.symm)]; exact i3 i hne
theorem cnt_skip {q : Nat → Bool} {a b : Nat} (h : a ≤ b) (hz : ∀ i, a ≤ i → i < b → q i = false) : cnt b q = cnt a q := by
  rw [cnt_sum, cnt_sum]
  exact sumN_pad h (fun k h1 h2 => if_neg (by rw [hz k h1 h2]; decide))
/-- marks of rows before r, and of row r those below m -/
def MK (p : Pn) (σ : S0) (r m : Nat) (s : S0) : Prop := (∀ b, b ≠ 0 → b ≠ 16 → b ≠ 18 → b ≠ 20 → s b = σ b) ∧ (∀ k, k ≠ 10 → s 0 k = σ 0 k) ∧ s 0 10 = nI (p.rs r + cnt m (p.it r)) ∧ (∀ i, i < m → p.it r i = true → s 18 (p.rs r + cnt i (p.it r)) = nI i) ∧ (∀ r' j, r' < r → j < p.cr r' → s 18 (p.rs r' + j) = nI (p.M0 r' j)) ∧ (∀ i, i < p.N → p.ir i < r → s 16 i = nI (p.pl p.M0 i)) ∧ (∀ r', r' < r → s 20 r' = nI (p.rs r'))
theorem MK.skip {r m m' : Nat} {s : S0} (h : MK p σ r m s) (hm : m ≤ m') (hz : ∀ i, m ≤ i → i < m' → p.it r i = false) : MK p σ r m' s := by
  obtain ⟨a, b, c, d, e⟩ := h
  refine ⟨a, b, by rw [c, cnt_skip hm hz], fun i hi hq => ?_, e⟩
  rcases Nat.lt_or_ge i m with q | q
  · exact d i q hq
  · rw [hz i q hi] at hq; cases hq
theorem MK.lay (hp : PK p) {r m : Nat} {s : S0} (h : MK p σ r m s) (hr : r < p.R) (hq : p.it r m = true) {post : S0 → Prop} (hpost : ∀ s', (∀ b, b ≠ 0 → b ≠ 18 → s' b = s b) → MK p σ r (m + 1) s' → post s') : Sp_O_layMark (nI m) s post := by
  obtain ⟨a, b, c, d, e, f, g⟩ := h
  have hN := hp.N166
  have hlt : p.rs r + cnt m (p.it r) < p.rs (r + 1) := by
    rw [rs_s]; have := cnt_lt_of (it_lt hq) hq
    unfold Pn.cr; omega
  have hrs := rs_N (p := p) (r := r + 1)
  unfold Sp_O_layMark
  rw [c, cl (by omega)]
  refine ⟨in166 (by omega), fun σ1 e1 σ2 e2 => ?_⟩
  have k0 : σ1 0 10 = nI (p.rs r + cnt m (p.it r)) := by rw [e1, st_ne (by decide)]; exact c
  have x18 : ∀ j, σ2 18 j = if j = p.rs r + cnt m (p.it r) then nI m else s 18 j := fun j => by
    rw [e2, st_ne (by decide), e1, st_app]
    by_cases q : j = p.rs r + cnt m (p.it r)
    · rw [if_pos ⟨rfl, q⟩, if_pos q]
    · rw [if_neg (fun z => q z.2), if_neg q]
  have keep : ∀ b, b ≠ 0 → b ≠ 18 → σ2 b = s b := fun b h0 h18 => by rw [e2, st_ne h0, e1, st_ne h18]
  refine hpost σ2 keep ⟨fun b h0 h16 h18 h20 => by rw [keep b h0 h18]; exact a b h0 h16 h18 h20, fun k hk => by rw [e2, st_other hk, e1, st_ne (by decide)]; exact b k hk, ?_, fun i hi hqi => ?_, fun r' j hr' hj => ?_, fun i hi hir => by rw [keep 16 (by decide) (by decide)]; exact f i hi hir, fun r' hr' => by rw [keep 20 (by decide) (by decide)]; exact g r' hr'⟩
  · rw [e2, st_same, k0, nI_1, cnt, if_pos hq]; rfl
  · rw [x18]
    by_cases q : i = m
    · subst q; rw [if_pos rfl]
    · have := cnt_lt_of (show i < m by omega) hqi
      rw [if_neg (by omega)]; exact d i (by omega) hqi
  · have := rs_mono (p := p) (show r' + 1 ≤ r by omega)
    rw [rs_s] at this
    rw [x18, if_neg (by omega)]; exact e r' j hr' hj
set_option maxHeartbeats 1000000 in
theorem sp_layMarks (hp : PK p) (h : PLp p σ) (h9 : σ 0 9 = nI p.R) {post : S0 → Prop}
    (hpost : ∀ s, (∀ b, b ≠ 0 → b ≠ 16 → b ≠ 18 → b ≠ 20 → s b = σ b) → (∀ k, k ≠ 10 → s 0 k = σ 0 k) → s 0 10 = nI (p.rs p.R) → (∀ r j, r < p.R → j < p.cr r → s 18 (p.rs r + j) = nI (p.M0 r j)) → (∀ i, i < p.N → p.ir i < p.R → s 16 i = nI (p.pl p.M0 i)) → (∀ r, r ≤ p.R → s 20 r = nI (p.rs r)) → post s) : Sp_O_layMarks σ post := by
  have hR := hp.R16
  have hN := hp.N166
  have hn := hp.n120
  have h16N : 16 ≤ p.N := by unfold Pn.N; omega
  have plan : ∀ {r m : Nat} {s : S0}, MK p σ r m s → PLp p s := fun hm => h.of ⟨fun b h0 hb => hm.1 b h0 (by omega) (by omega) (by omega), fun k hk => hm.2.1 k (by omega)⟩
  have nine : ∀ {r m : Nat} {s : S0}, MK p σ r m s → s 0 9 = nI p.R := fun hm => by rw [hm.2.1 9 (by decide)]; exact h9
  unfold Sp_O_layMarks
  intro G7 G27 G67 h7 h27 h67 σ1 e1
  refine upto p.R (fun r s => G7 (nI r) s) (fun r s => MK p σ r 0 s) (fun s hI => ?_) (fun r s hr hI ih => ?_) 0 σ1 (Nat.zero_le _) ⟨fun b h0 _ _ _ => by rw [e1, st_ne h0], fun k hk => by rw [e1, st_other hk], by rw [e1, st_same]; rfl, fun i hi => absurd hi (by omega), fun r' j hr' => absurd hr' (by omega), fun i _ hr' => absurd hr' (by omega), fun r' hr' => absurd hr' (by omega)⟩
  · have h9s := nine hI
    obtain ⟨a, b, c, d, e, f, g⟩ := hI
    refine h7 _ _ ⟨fun _ => ?_, fun q => absurd (by rw [h9s]; exact nI_le (Nat.le_refl _) (by omega)) q⟩
    rw [h9s, cl (by omega : p.R < 2 ^ 31)]
    refine ⟨vp_in_nI (by omega) (by omega), fun σ2 e2 => hpost σ2 (fun b' h0 h16 h18 h20 => by rw [e2, st_ne h20]; exact a b' h0 h16 h18 h20) (fun k hk => by rw [e2, st_ne (by decide)]; exact b k hk) (by rw [e2, st_ne (by decide)]; exact c) (fun r j hr hj => by rw [e2, st_ne (by decide)]; exact e r j hr hj) (fun i hi hir => by rw [e2, st_ne (by decide)]; exact f i hi hir) (fun r hr => ?_)⟩
    rw [e2, st_app]
    by_cases q : r = p.R
    · rw [if_pos ⟨rfl, q⟩, c, q]; rfl
    · rw [if_neg (fun z => q z.2)]; exact g r (by omega)
  · have h9s := nine hI
    have itg : ∀ g, g < 16 → (p.it r g = true ↔ p.dr g = true ∧ p.ro g = r) := fun g hg => by
      rw [it_iff]
      constructor
      · rintro ⟨_, hi⟩
        cases hd : p.dr g
        · rw [ir_n hg hd] at hi; omega
        · rw [ir_g hg hd] at hi; exact ⟨rfl, hi⟩
      · rintro ⟨hd, hi⟩
        exact ⟨by omega, by rw [ir_g hg hd]; exact hi⟩
    let J : Nat → S0 → Prop := fun m s => MK p σ r m s ∧ s 20 r = nI (p.rs r)
    have loop2 : ∀ k s, k ≤ p.n → J (16 + p.fb k) s → G67 (nI r) (nI k) s := by
      refine upto p.n (fun k s => G67 (nI r) (nI k) s) (fun k s => J (16 + p.fb k) s) (fun s hJ => ?_) (fun k s hk hJ ih2 => ?_)
      · obtain ⟨hM, h20⟩ := hJ
        have h6s : s 0 6 = nI p.n := (plan hM).2.1
        obtain ⟨a, b, c, d, e, f, g⟩ := id hM
        refine h67 _ _ _ ⟨fun _ => ?_, fun q => absurd (by rw [h6s]; exact nI_le (Nat.le_refl _) (by omega)) q⟩
        have ecr : cnt (16 + p.fb p.n) (p.it r) = p.cr r := rfl
        rw [c, ecr]
        have hrs : p.rs (r + 1) ≤ 166 := by have := rs_N (p := p) (r := r + 1); omega
        rw [rs_s] at hrs
        have m0 := M0_prm (p := p) (r := r)
        refine sp_number (L := p.M0 r) (by omega) h20 hrs (fun j hj => ?_) m0.2.2 (fun σ' f1 f2 f3 => ?_)
        · obtain ⟨n1, n2, n3⟩ := nthx_ok (p := p.it r) p.N hj
          have := d _ n1 n2
          rw [n3] at this
          exact ⟨this, by have := it_lt (m0.1 j hj); omega⟩
        · rw [nI_1]
          refine ih σ' ⟨fun b' h0 h16 h18 h20 => by rw [f1 b' h16]; exact a b' h0 h16 h18 h20, fun k hk => by rw [f1 0 (by decide)]; exact b k hk, by rw [f1 0 (by decide), c, ecr]; rfl, fun i hi => absurd hi (by omega), fun r' j hr' hj => ?_, fun i hi hir => ?_, fun r' hr' => ?_⟩
          · rw [f1 18 (by decide)]
            by_cases q : r' = r
            · subst q
              obtain ⟨n1, n2, n3⟩ := nthx_ok (p := p.it r') p.N hj
              have := d _ n1 n2
              rw [n3] at this; exact this
            · exact e r' j (by omega) hj
          · by_cases q : p.ir i = r
            · have hpl := pl_at PM0 hi (by rw [q]; exact hr)
              rw [q] at hpl
              have := f2 _ hpl.1
              rw [hpl.2] at this; exact this
            · rw [f3 i (fun j hj z => q (by rw [← z]; exact (it_iff.mp (m0.1 j hj)).2))]; exact f i hi (by omega)
          · rw [f1 20 (by decide)]
            by_cases q : r' = r
            · rw [q]; exact h20
            · exact g r' (by omega)
      · obtain ⟨hM, h20⟩ := hJ
        have hP := plan hM
        have h6s : s 0 6 = nI p.n := hP.2.1
        obtain ⟨l1, l2, l3, l4, l5, l6⟩ := hp.link hk
        have h14 := hp.nb14 hk
        have bend : ∀ i, 16 + p.fb k ≤ i → i < 16 + p.fb (k + 1) → p.ir i = p.ro (p.U k) + 1 + (i - (16 + p.fb k)) := fun i h1 h2 => by
          rw [fb_s] at h2
          have := ir_b (p := p) hk (show i - (16 + p.fb k) < p.nb k by omega)
          rw [show 16 + p.fb k + (i - (16 + p.fb k)) = i by omega] at this; exact this
        have none : ¬ (p.ro (p.U k) < r ∧ r ≤ p.ro (p.U k) + p.nb k) → G67 (nI r) (nI k + 1) s := fun hno => by
          rw [nI_1]
          refine ih2 s ⟨hM.skip (by have := fb_mono (p := p) (show k ≤ k + 1 by omega); omega) (fun i h1 h2 => ?_), h20⟩
          cases hq : p.it r i
          · rfl
          · have h3 := (it_iff.mp hq).2
            rw [bend i h1 h2] at h3
            rw [fb_s] at h2
            exact absurd ⟨by omega, by omega⟩ hno
        refine h67 _ _ _ ⟨fun q => absurd (leN h6s q (by omega) (by omega)) (by omega), fun _ => ⟨in256 (by omega), ?_⟩⟩
        rw [cl (by omega : k < 2 ^ 31), (hP.2.2.1 k hk).1, cl (by omega : p.U k < 2 ^ 31), hP.2.2.2.2.1 _ l1 l3]
        refine ⟨in16 l1, fun v8 e8 => ?_⟩
        rcases Nat.lt_or_ge (p.ro (p.U k)) r with q | q
        · rw [pk_sub (by omega)] at e8
          rw [e8]
          refine ⟨fun z => absurd z (nI_nle (by omega) (by omega)), fun _ => sp_bendsP hp hP hk ⟨fun z => none ?_, fun z => ?_⟩⟩
          · rw [nI_ltI (by omega) (by omega)] at z; omega
          · rw [nI_ltI (by omega) (by omega)] at z
            refine sp_pointOf hp hP hk (by omega) ?_
            obtain ⟨j, hj⟩ : ∃ j, r - p.ro (p.U k) = j + 1 := ⟨r - p.ro (p.U k) - 1, by omega⟩
            rw [hj, pt_b (by omega)]
            have hjb : j < p.nb k := by omega
            have hbl := bend_lt hk hjb
            have hq : p.it r (16 + p.fb k + j) = true := it_iff.mpr ⟨hbl, by rw [ir_b hk hjb]; omega⟩
            have other : ∀ i, 16 + p.fb k ≤ i → i < 16 + p.fb (k + 1) → i ≠ 16 + p.fb k + j → p.it r i = false := fun i h1 h2 hne => by
              cases hqi : p.it r i
              · rfl
              · have h3 := (it_iff.mp hqi).2
                rw [bend i h1 h2] at h3; omega
            have h1 := hM.skip (show 16 + p.fb k ≤ 16 + p.fb k + j by omega) (fun i h1 h2 => other i h1 (by rw [fb_s]; omega) (by omega))
            refine h1.lay hp hr hq (fun s' f1 hM' => ?_)
            rw [nI_1]
            refine ih2 s' ⟨hM'.skip (by rw [fb_s]; omega) (fun i h1 h2 => other i (by omega) h2 (by omega)), by rw [f1 20 (by decide) (by decide)]; exact h20⟩
        · refine ⟨fun _ => none (by omega), fun z => absurd ?_ z⟩
          rw [e8]
          rcases Nat.lt_or_ge r (p.ro (p.U k)) with q2 | q2
          · have := pk_sneg (a := r) (b := p.ro (p.U k)) (by omega) q2
            exact Int32.le_of_lt this
          · rw [pk_sub (by omega), show r - p.ro (p.U k) = 0 by omega]; exact Int32.le_refl _
    have loop1 : ∀ g s, g ≤ 16 → J g s → G27 (nI r) (nI g) s := by
      refine upto 16 (fun g s => G27 (nI r) (nI g) s) (fun g s => J g s) (fun s hJ => ?_) (fun g s hg hJ ih2 => ?_)
      · exact h27 _ _ _ ⟨fun _ => loop2 0 s (Nat.zero_le _) hJ, fun c => absurd ((le16 (by omega)).mpr (by omega)) c⟩
      · obtain ⟨hM, h20⟩ := hJ
        have hP := plan hM
        have no : p.it r g = false → G27 (nI r) (nI g + 1) s := fun q => by
          rw [nI_1]
          exact ih2 s ⟨hM.skip (Nat.le_succ _) (fun i h1 h2 => by rw [show i = g by omega]; exact q), h20⟩
        refine h27 _ _ _ ⟨fun c => absurd ((le16 (by omega)).mp c) (by omega), fun _ => sp_hasS hP.1 hg (fun hd => ⟨fun c => absurd c (by decide), fun _ => ⟨in16 hg, ?_⟩⟩) (fun hd => ⟨fun _ => no ?_, fun c => absurd rfl c⟩)⟩
        · have hro := hp.2.2.2.1 g hg hd
          rw [cl (by omega : g < 2 ^ 31), hP.2.2.2.2.1 g hg hd, nIx (by omega) (by omega)]
          refine ⟨fun c => no ?_, fun c => hM.lay hp hr ((itg g hg).mpr ⟨hd, c⟩) (fun s' f1 hM' => ?_)⟩
          · cases hq : p.it r g
            · rfl
            · exact absurd ((itg g hg).mp hq).2 c
          · rw [nI_1]
            exact ih2 s' ⟨hM', by rw [f1 20 (by decide) (by decide)]; exact h20⟩
        · cases hq : p.it r g
          · rfl
          · rw [((itg g hg).mp hq).1] at hd; cases hd
    refine h7 _ _ ⟨fun c => absurd (leN h9s c (by omega) (by omega)) (by omega), fun _ => ⟨vp_in_nI (by omega) (by omega), fun σ3 e3 => ?_⟩⟩
    rw [cl (by omega : r < 2 ^ 31)] at e3
    obtain ⟨a, b, c, d, e, f, g⟩ := hI
    refine loop1 0 σ3 (by omega) ⟨⟨fun b' h0 h16 h18 h20 => by rw [e3, st_ne h20]; exact a b' h0 h16 h18 h20, fun k hk => by rw [e3, st_ne (by decide)]; exact b k hk, by rw [e3, st_ne (by decide)]; exact c, fun i hi => absurd hi (by omega), fun r' j hr' hj => by rw [e3, st_ne (by decide)]; exact e r' j hr' hj, fun i hi hir => by rw [e3, st_ne (by decide)]; exact f i hi hir, fun r' hr' => by rw [e3, st_other (by omega)]; exact g r' hr'⟩, ?_⟩
    rw [e3, st_same, c]; rfl
end
