/-! The reference's plan: drawn groups and links. -/
def hid (Gp : Nat → Nat) (Hd : Nat → Bool) (n : Nat) (g : Nat) : Bool := !anyB n (fun c => decide (Gp c = g) && !Hd c)
section
variable {T : Nat → Nat → Bool} {Gp : Nat → Nat} {Ph : Nat → Int32} {Hd Th : Nat → Bool} {σ τ : S0}
theorem lds_iff {f : Nat → Bool} {i : Nat} : lds Gp f i = true ↔ ∃ c, c < 16 ∧ f c = true ∧ Gp c = i := by
  unfold lds; rw [anyB_iff]
  constructor
  · rintro ⟨c, hc, h⟩
    rw [Bool.and_eq_true, decide_eq_true_eq] at h; exact ⟨c, hc, h.1, h.2⟩
  · rintro ⟨c, hc, h1, h2⟩
    exact ⟨c, hc, by rw [h1, h2]; simp⟩
theorem hid_iff {g : Nat} : hid Gp Hd 16 g = true ↔ ∀ c, c < 16 → Gp c = g → Hd c = true := by
  unfold hid
  rw [Bool.not_eq_true', anyB_false]
  constructor
  · intro h c hc e
    have := h c hc
    rw [decide_eq_true e, Bool.true_and, Bool.not_eq_false'] at this; exact this
  · intro h c hc
    by_cases e : Gp c = g
    · rw [h c hc e, decide_eq_true e]; rfl
    · rw [decide_eq_false e]; rfl
theorem dr_iff {g : Nat} : Dr Gp Hd Th g = true ↔ ∃ c, c < 16 ∧ (Th c = true ∧ Hd c = false) ∧ Gp c = g := by
  unfold Dr; rw [lds_iff]
  simp only [Bool.and_eq_true, Bool.not_eq_true']
theorem dr_eq (hW : WF T Gp Ph Hd Th) {g : Nat} (hg : g < 16) : Dr Gp Hd Th g = (decide (Gp g = g) && (lds Gp Th g && !hid Gp Hd 16 g)) := by
  obtain ⟨w1, w2, w3, w4, w5, w6, w7⟩ := hW
  rw [Bool.eq_iff_iff, dr_iff, Bool.and_eq_true, Bool.and_eq_true, decide_eq_true_eq, lds_iff, Bool.not_eq_true', ← Bool.not_eq_true, hid_iff]
  constructor
  · rintro ⟨c, hc, ⟨h1, h2⟩, rfl⟩
    exact ⟨w2 c hc, ⟨c, hc, h1, rfl⟩, fun q => by rw [q c hc rfl] at h2; cases h2⟩
  · rintro ⟨h1, ⟨c, hc, h2, h3⟩, h4⟩
    have h5 : ∃ c', c' < 16 ∧ Gp c' = g ∧ Hd c' = false := by
      refine Classical.byContradiction (fun q => h4 (fun c' hc' e => ?_))
      cases hh : Hd c'
      · exact absurd ⟨c', hc', e, hh⟩ q
      · rfl
    obtain ⟨c', hc', e', hh⟩ := h5
    refine ⟨c', hc', ⟨?_, hh⟩, e'⟩
    by_cases q : c' = c
    · rw [q]; exact h2
    · exact w5 c' c hc' hc q (by rw [e', h3])
theorem hg_eq (hW : WF T Gp Ph Hd Th) {v : Nat} (hv : v < 16) : HG Gp Hd Th v = (decide (Gp v = v) && hid Gp Hd 16 v) := by
  obtain ⟨w1, w2, w3, w4, w5, w6, w7⟩ := hW
  unfold HG
  rw [Bool.eq_iff_iff, Bool.and_eq_true, Bool.and_eq_true, decide_eq_true_eq, lds_iff, Bool.not_eq_true', ← Bool.not_eq_true, dr_iff, hid_iff]
  constructor
  · rintro ⟨⟨c, hc, h1, rfl⟩, h2⟩
    refine ⟨w2 c hc, fun d hd e => ?_⟩
    cases hh : Hd d
    · refine absurd ⟨d, hd, ⟨?_, hh⟩, e⟩ h2
      by_cases q : d = c
      · rw [q]; exact h1
      · exact w5 d c hd hc q e
    · rfl
  · rintro ⟨h1, h2⟩
    refine ⟨⟨v, hv, w4 v hv (h2 v hv h1), h1⟩, ?_⟩
    rintro ⟨c, hc, ⟨h3, h4⟩, e⟩
    rw [h2 c hc e] at h4; cases h4
theorem b2i_ne {b : Bool} (h : ¬ b2i b = 0) : b = true := by cases b; exact absurd rfl h; rfl
theorem sp_isHidden (h2 : ∀ c, c < 16 → τ 2 c = nI (Gp c)) (h4 : ∀ c, c < 16 → τ 4 c = b2i (Hd c)) (h16 : ∀ c, c < 16 → Gp c < 16) {g : Nat} (hg : g < 16) {post : Int32 → S0 → Prop} (h : post (b2i (hid Gp Hd 16 g)) τ) : Sp_R_isHidden (nI g) τ post := by
  unfold Sp_R_isHidden
  intro G4 hG
  refine upto 16 (fun k (_ : Unit) => G4 (nI g) (b2i (hid Gp Hd k g)) (nI k) τ) (fun _ _ => True) (fun _ _ => ?_) (fun k _ hk _ ih => ?_) 0 () (by omega) trivial
  · exact hG _ _ _ _ ⟨fun _ => ⟨b2i_bo _, h⟩, fun c => absurd ((le16 (by omega)).mpr (by omega)) c⟩
  · have hgk := h16 k hk
    have e1 : hid Gp Hd (k + 1) g = (hid Gp Hd k g && !(decide (Gp k = g) && !Hd k)) := by unfold hid; rw [anyB, Bool.not_or]
    have ih := ih () trivial
    rw [e1] at ih
    refine hG _ _ _ _ ⟨fun c => absurd ((le16 (by omega)).mp c) (by omega), fun _ => ?_⟩
    rw [nI_1, cl (by omega : k < 2 ^ 31), h2 k hk, h4 k hk, nIx (by omega) (by omega)]
    refine ⟨fun c => ?_, fun c => ⟨in16 hk, fun c2 => ?_, fun c2 => ⟨in16 hk, fun c3 => ?_, fun c3 => ?_⟩⟩⟩
    · rw [b2i_0.mp c, Bool.false_and] at ih; exact ih
    · rw [b2i_ne c, decide_eq_false c2] at ih; exact ih
    · rw [b2i_ne c, decide_eq_true c2, b2i_0.mp c3] at ih; exact ih
    · rw [b2i_ne c, decide_eq_true c2, b2i_ne c3] at ih; exact ih
theorem sp_isThere (h2 : ∀ c, c < 16 → τ 2 c = nI (Gp c)) (h5 : ∀ c, c < 16 → τ 5 c = b2i (Th c)) (h16 : ∀ c, c < 16 → Gp c < 16) {g : Nat} (hg : g < 16) {post : Int32 → S0 → Prop} (h : post (b2i (lds Gp Th g)) τ) : Sp_R_isThere (nI g) τ post := by
  unfold Sp_R_isThere
  intro G4 hG
  refine upto 16 (fun k (_ : Unit) => G4 (nI g) (b2i (anyB k (fun c => Th c && decide (Gp c = g)))) (nI k) τ) (fun _ _ => True) (fun _ _ => ?_) (fun k _ hk _ ih => ?_) 0 () (by omega) trivial
  · exact hG _ _ _ _ ⟨fun _ => ⟨b2i_bo _, h⟩, fun c => absurd ((le16 (by omega)).mpr (by omega)) c⟩
  · have hgk := h16 k hk
    have ih := ih () trivial
    simp only [anyB] at ih
    refine hG _ _ _ _ ⟨fun c => absurd ((le16 (by omega)).mp c) (by omega), fun _ => ?_⟩
    rw [nI_1, cl (by omega : k < 2 ^ 31), h2 k hk, h5 k hk, nIx (by omega) (by omega)]
    refine ⟨fun c => ?_, fun c => ⟨in16 hk, fun c2 => ?_, fun c2 => ⟨in16 hk, fun c3 => ?_, fun c3 => ?_⟩⟩⟩
    · rw [b2i_ne c, Bool.true_or] at ih; exact ih
    · rw [b2i_0.mp c, decide_eq_false c2, Bool.and_false, Bool.or_false] at ih; exact ih
    · rw [b2i_0.mp c, b2i_0.mp c3, Bool.false_and, Bool.or_false] at ih; exact ih
    · rw [b2i_ne c3, decide_eq_true c2, Bool.true_and, Bool.or_true] at ih; exact ih
theorem sp_isDrawn (hR : RD T Gp Ph Hd Th τ) (hW : WF T Gp Ph Hd Th) {g : Nat} (hg : g < 16) {post : Int32 → S0 → Prop} (h : post (b2i (Dr Gp Hd Th g)) τ) : Sp_R_isDrawn (nI g) τ post := by
  obtain ⟨r1, r2, r3, r4, r5⟩ := hR
  have hgg := hW.lt hg
  rw [dr_eq hW hg] at h
  unfold Sp_R_isDrawn
  rw [cl (by omega : g < 2 ^ 31), r2 g hg, nIx (by omega) (by omega)]
  refine ⟨in16 hg, fun c => ?_, fun c => sp_isThere r2 r5 (fun c hc => hW.lt hc) hg ⟨fun c2 => ?_, fun c2 => sp_isHidden r2 r4 (fun c hc => hW.lt hc) hg ⟨fun c3 => ?_, fun c3 => ?_⟩⟩⟩
  · rw [decide_eq_false c] at h; exact h
  · rw [b2i_0.mp c2, Bool.false_and, Bool.and_false] at h; exact h
  · rw [b2i_ne c3, Bool.not_true, Bool.and_false, Bool.and_false] at h; exact h
  · rw [decide_eq_true c, b2i_ne c2, b2i_0.mp c3] at h; exact h
theorem RD.five {τ' : S0} (h : RD T Gp Ph Hd Th τ) (f : ∀ b, 1 ≤ b → b ≤ 5 → τ' b = τ b) : RD T Gp Ph Hd Th τ' := by
  obtain ⟨r1, r2, r3, r4, r5⟩ := h
  exact ⟨fun a b ha hb => by rw [f 1 (by omega) (by omega)]; exact r1 a b ha hb, fun c hc => by rw [f 2 (by omega) (by omega)]; exact r2 c hc, fun c hc => by rw [f 3 (by omega) (by omega)]; exact r3 c hc, fun c hc => by rw [f 4 (by omega) (by omega)]; exact r4 c hc, fun c hc => by rw [f 5 (by omega) (by omega)]; exact r5 c hc⟩
set_option maxHeartbeats 2000000 in
theorem sp_rfindLinks (hR : RD T Gp Ph Hd Th τ) (hW : WF T Gp Ph Hd Th) {post : S0 → Prop} (h : ∀ τ', (∀ b, b ≠ 7 → τ' b = τ b) → (∀ k, k < 256 → τ' 7 k = b2i (lk T Gp Hd Th k)) → post τ') : Sp_R_findLinks τ post := by
  obtain ⟨r1, r2, r3, r4, r5⟩ := id hR
  have h16 : ∀ c, c < 16 → Gp c < 16 := fun c hc => hW.lt hc
  unfold Sp_R_findLinks
  intro G2 G24 G76 G105 G180 h2 h24 h76 h105 h180
  have loop5 : ∀ k s, k ≤ 256 → ((∀ b, b ≠ 7 → s b = τ b) ∧ ∀ x, x < 256 → s 7 x = b2i (if x < k then lk T Gp Hd Th x else LC T Gp Hd Th (x / 16) (x % 16))) → G180 (nI k) s := by
    refine upto 256 (fun k s => G180 (nI k) s) _ (fun s hI => ?_) (fun k s hk hI ih => ?_)
    · exact h180 _ _ ⟨fun _ => h s hI.1 (fun k hk => by rw [hI.2 k hk, if_pos hk]), fun c => absurd ((le256 (by omega)).mpr (by omega)) c⟩
    · obtain ⟨i1, i2⟩ := hI
      have hRs : RD T Gp Ph Hd Th s := hR.five (fun b h1 h5 => i1 b (by omega))
      have put : ∀ w : Bool, w = lk T Gp Hd Th k → ∀ σ5, σ5 = st s 7 k (b2i w) → G180 (nI k + 1) σ5 := by
        intro w hw σ5 e5
        rw [nI_1]
        refine ih σ5 ⟨fun b hb => by rw [e5, st_ne hb]; exact i1 b hb, fun x hx => ?_⟩
        rw [e5, st_app]
        by_cases q : x = k
        · subst q; rw [if_pos ⟨rfl, rfl⟩, if_pos (by omega), hw]
        · rw [if_neg (by simp [q]), i2 x hx]
          have : x < k ↔ x < k + 1 := by omega
          simp only [this]
      refine h180 _ _ ⟨fun c => absurd ((le256 (by omega)).mp c) (by omega), fun _ => ⟨in256 hk, ?_⟩⟩
      rw [d16 hk, m16 hk, cl (by omega : k < 2 ^ 31), i2 k hk, if_neg (by omega)]
      refine ⟨fun c => ⟨in256 hk, put false ?_⟩, fun c => ?_⟩
      · unfold lk; rw [b2i_0.mp c, Bool.false_and, Bool.and_false]
      · refine sp_isDrawn hRs hW (by omega) ⟨fun c2 => ⟨in256 hk, put false ?_⟩, fun c2 => sp_isDrawn hRs hW (by omega) ⟨fun c3 => ⟨in256 hk, put false ?_⟩, fun c3 => ⟨in256 hk, put true ?_⟩⟩⟩
        · unfold lk; rw [b2i_0.mp c2, Bool.false_and]
        · unfold lk; rw [b2i_0.mp c3, Bool.and_false, Bool.and_false]
        · unfold lk; rw [b2i_ne c, b2i_ne c2, b2i_ne c3]; rfl
  have loop3 : ∀ v s, v ≤ 16 → ((∀ b, b ≠ 7 → s b = τ b) ∧ ∀ i j, i < 16 → j < 16 → s 7 (16 * i + j) = b2i (cloV (HG Gp Hd Th) v (DB T Gp) i j)) → G76 (nI v) s := by
    refine upto 16 (fun v s => G76 (nI v) s) _ (fun s hI => ?_) (fun v s hv hI ih => ?_)
    · refine h76 _ _ ⟨fun _ => loop5 0 s (by omega) ⟨hI.1, fun x hx => ?_⟩, fun c => absurd ((le16 (by omega)).mpr (by omega)) c⟩
      rw [if_neg (by omega)]
      have := hI.2 (x / 16) (x % 16) (by omega) (by omega)
      rw [show 16 * (x / 16) + x % 16 = x by omega] at this
      exact this
    · obtain ⟨i1, i2⟩ := hI
      have hRs : RD T Gp Ph Hd Th s := hR.five (fun b h1 h5 => i1 b (by omega))
      have hgv := h16 v hv
      have same : HG Gp Hd Th v = false → G76 (nI v + 1) s := fun q => by
        rw [nI_1]
        exact ih s ⟨i1, fun i j hi hj => by rw [cloV, if_neg (by rw [q]; decide)]; exact i2 i j hi hj⟩
      have go : HG Gp Hd Th v = true → G105 (nI v) 0 s := fun hV => by
        have hs : ∀ i j, cloV (HG Gp Hd Th) (v + 1) (DB T Gp) i j = wst (cloV (HG Gp Hd Th) v (DB T Gp)) v i j := fun i j => by rw [cloV, if_pos hV]
        have key : ∀ k s', k ≤ 256 → ((∀ b, b ≠ 7 → s' b = τ b) ∧ ∀ i j, i < 16 → j < 16 → s' 7 (16 * i + j) = b2i (if 16 * i + j < k then wst (cloV (HG Gp Hd Th) v (DB T Gp)) v i j else cloV (HG Gp Hd Th) v (DB T Gp) i j)) → G105 (nI v) (nI k) s' := by
          refine upto 256 (fun k s => G105 (nI v) (nI k) s) _ (fun s' hJ => ?_) (fun k s' hk hJ ih2 => ?_)
          · refine h105 _ _ _ ⟨fun _ => ?_, fun c => absurd ((le256 (by omega)).mpr (by omega)) c⟩
            rw [nI_1]
            exact ih s' ⟨hJ.1, fun i j hi hj => by have := hJ.2 i j hi hj; rw [if_pos (by omega)] at this; rw [hs]; exact this⟩
          · obtain ⟨j1, j2⟩ := hJ
            have hi16 : k / 16 < 16 := by omega
            have hj16 : k % 16 < 16 := by omega
            have hk' : 16 * (k / 16) + k % 16 = k := by omega
            have e0 : s' 7 k = b2i (cloV (HG Gp Hd Th) v (DB T Gp) (k / 16) (k % 16)) := by
              have := j2 (k / 16) (k % 16) hi16 hj16
              rw [hk', if_neg (by omega)] at this; exact this
            have e1 : s' 7 (k / 16 * 16 + v) = b2i (cloV (HG Gp Hd Th) v (DB T Gp) (k / 16) v) := by
              have := j2 (k / 16) v hi16 hv
              rw [show k / 16 * 16 + v = 16 * (k / 16) + v by omega, this]
              split
              · rw [wst_col]
              · rfl
            have e2 : s' 7 (16 * v + k % 16) = b2i (cloV (HG Gp Hd Th) v (DB T Gp) v (k % 16)) := by
              rw [j2 v (k % 16) hv hj16]
              split
              · rw [wst_row]
              · rfl
            have put : ∀ w : Bool, w = wst (cloV (HG Gp Hd Th) v (DB T Gp)) v (k / 16) (k % 16) → ∀ σ1, σ1 = st s' 7 k (b2i w) → G105 (nI v) (nI k + 1) σ1 := by
              intro w hw σ1 e
              rw [nI_1]
              refine ih2 σ1 ⟨fun b hb => by rw [e, st_ne hb]; exact j1 b hb, fun i j hi hj => ?_⟩
              rw [e, st_app]
              by_cases q : 16 * i + j = k
              · have hi2 : i = k / 16 := by omega
                have hj2 : j = k % 16 := by omega
                rw [if_pos ⟨rfl, q⟩, if_pos (by omega), hw, hi2, hj2]
              · rw [if_neg (by simp [q]), j2 i j hi hj]
                by_cases q2 : 16 * i + j < k
                · rw [if_pos q2, if_pos (by omega)]
                · rw [if_neg q2, if_neg (by omega)]
            refine h105 _ _ _ ⟨fun c => absurd ((le256 (by omega)).mp c) (by omega), fun _ => ⟨in256 hk, ?_⟩⟩
            rw [d16 hk, m16 hk, mul16', nI_add, mul16, nI_add, cl (by omega : k < 2 ^ 31), cl (by omega : k / 16 * 16 + v < 2 ^ 31), cl (by omega : 16 * v + k % 16 < 2 ^ 31), e0, e1, e2]
            refine ⟨fun c => ⟨in256 hk, put true ?_⟩, fun c => ⟨in256 (by omega), fun c2 => ⟨in256 hk, put false ?_⟩, fun c2 => ⟨in256 (by omega), fun c3 => ⟨in256 hk, put false ?_⟩, fun c3 => ⟨in256 hk, put true ?_⟩⟩⟩⟩
            · unfold wst; rw [b2i_ne c]; rfl
            · unfold wst; rw [b2i_0.mp c, b2i_0.mp c2]; rfl
            · unfold wst; rw [b2i_0.mp c, b2i_0.mp c3, Bool.and_false]; rfl
            · unfold wst; rw [b2i_ne c2, b2i_ne c3]; simp
        exact key 0 s (by omega) ⟨i1, fun i j hi hj => by rw [if_neg (by omega)]; exact i2 i j hi hj⟩
      rw [hg_eq hW hv] at same go
      refine h76 _ _ ⟨fun c => absurd ((le16 (by omega)).mp c) (by omega), fun _ => ⟨in16 hv, ?_⟩⟩
      rw [cl (by omega : v < 2 ^ 31), hRs.2.1 v hv, nIx (by omega) (by omega)]
      refine ⟨fun c => same (by rw [decide_eq_false c]; rfl), fun c => sp_isHidden hRs.2.1 hRs.2.2.2.1 h16 hv ⟨fun c2 => go (by rw [decide_eq_true c, b2i_ne c2]; rfl), fun c2 => same (by rw [b2i_0.mp c2, Bool.and_false])⟩⟩
  have loop2 : ∀ k s, k ≤ 256 → ((∀ b, b ≠ 7 → s b = τ b) ∧ ∀ i j, i < 16 → j < 16 → s 7 (16 * i + j) = b2i (anyB k (fun x => T (x / 16) (x % 16) && (decide (Gp (x / 16) = i) && decide (Gp (x % 16) = j))))) → G24 (nI k) s := by
    refine upto 256 (fun k s => G24 (nI k) s) _ (fun s hI => ?_) (fun k s hk hI ih => ?_)
    · refine h24 _ _ ⟨fun _ => loop3 0 s (by omega) ⟨hI.1, fun i j hi hj => ?_⟩, fun c => absurd ((le256 (by omega)).mpr (by omega)) c⟩
      rw [hI.2 i j hi hj]
      refine congrArg b2i ?_
      show _ = DB T Gp i j
      rw [Bool.eq_iff_iff, anyB_iff, db_iff]
      constructor
      · rintro ⟨x, hx, q⟩
        simp only [Bool.and_eq_true, decide_eq_true_eq] at q
        exact ⟨x / 16, x % 16, by omega, by omega, q.2.1, q.2.2, q.1⟩
      · rintro ⟨c, d, hc, hd, q1, q2, q3⟩
        refine ⟨16 * c + d, by omega, ?_⟩
        rw [show (16 * c + d) / 16 = c by omega, show (16 * c + d) % 16 = d by omega, q3, q1, q2]; simp
    · obtain ⟨i1, i2⟩ := hI
      have hc : k / 16 < 16 := by omega
      have hd : k % 16 < 16 := by omega
      have e1 : s 1 k = b2i (T (k / 16) (k % 16)) := by
        rw [i1 1 (by decide)]
        have := r1 (k / 16) (k % 16) hc hd
        rw [show 16 * (k / 16) + k % 16 = k by omega] at this; exact this
      refine h24 _ _ ⟨fun c => absurd ((le256 (by omega)).mp c) (by omega), fun _ => ⟨in256 hk, ?_⟩⟩
      rw [d16 hk, m16 hk, cl (by omega : k < 2 ^ 31), cl (by omega : k / 16 < 2 ^ 31), cl (by omega : k % 16 < 2 ^ 31), e1, i1 2 (by decide), r2 _ hc, r2 _ hd, mul16, nI_add, nI_1]
      have g1 := h16 _ hc
      have g2 := h16 _ hd
      refine ⟨fun c => ih s ⟨i1, fun i j hi hj => ?_⟩, fun c => ⟨in16 hc, in16 hd, in256 (by omega), fun σ3 e3 => ih σ3 ⟨fun b hb => by rw [e3, st_ne hb]; exact i1 b hb, fun i j hi hj => ?_⟩⟩⟩
      · rw [i2 i j hi hj, anyB, b2i_0.mp c, Bool.false_and, Bool.or_false]
      · rw [e3, cl (by omega : 16 * Gp (k / 16) + Gp (k % 16) < 2 ^ 31), st_app, anyB, b2i_ne c, Bool.true_and]
        by_cases q : 16 * i + j = 16 * Gp (k / 16) + Gp (k % 16)
        · have qi : Gp (k / 16) = i := by omega
          have qj : Gp (k % 16) = j := by omega
          rw [if_pos ⟨rfl, q⟩, qi, qj]; simp [b2i]
        · rw [if_neg (by simp [q]), i2 i j hi hj]
          have : (decide (Gp (k / 16) = i) && decide (Gp (k % 16) = j)) = false := by
            rw [← Bool.decide_and]
            exact decide_eq_false (fun z => q (by rw [z.1, z.2]))
          rw [this, Bool.or_false]
  have loop1 : ∀ k s, k ≤ 256 → ((∀ b, b ≠ 7 → s b = τ b) ∧ ∀ x, x < k → s 7 x = 0) → G2 (nI k) s := by
    refine upto 256 (fun k s => G2 (nI k) s) _ (fun s hI => ?_) (fun k s hk hI ih => ?_)
    · exact h2 _ _ ⟨fun _ => loop2 0 s (by omega) ⟨hI.1, fun i j hi hj => by rw [hI.2 _ (by omega)]; rfl⟩, fun c => absurd ((le256 (by omega)).mpr (by omega)) c⟩
    · refine h2 _ _ ⟨fun c => absurd ((le256 (by omega)).mp c) (by omega), fun _ => ⟨in256 hk, fun σ1 e1 => ?_⟩⟩
      rw [nI_1]
      rw [cl (by omega : k < 2 ^ 31)] at e1
      refine ih σ1 ⟨fun b hb => by rw [e1, st_ne hb]; exact hI.1 b hb, fun x hx => ?_⟩
      rw [e1, st_app]
      by_cases q : x = k
      · simp [q]
      · rw [if_neg (by simp [q])]; exact hI.2 x (by omega)
  exact loop1 0 τ (by omega) ⟨fun _ _ => rfl, fun x hx => absurd hx (by omega)⟩
end
