/-! The reference: phase, hide, group; phases of groups and misfits on both sides. -/
theorem okPh_neg {p : Int32} (h : okPh p) : p < 0 ↔ p = -1 := by
  rcases h with rfl | ⟨q, hq, rfl⟩
  · decide
  · constructor
    · intro c; exact absurd c (nI_pos (by omega))
    · intro c
      have h1 := congrArg Int32.toInt c
      rw [nI_toInt (by omega)] at h1
      have : ((-1 : Int32)).toInt = -1 := by decide
      omega
theorem gpf_ok {Gp : Nat → Nat} {Ph : Nat → Int32} {g : Nat} (h : ∀ c, c < 16 → okPh (Ph c)) : ∀ n, n ≤ 16 → okPh (gpf Gp Ph g n)
  | 0, _ => Or.inl rfl
  | n + 1, hn => by
    rw [gpf]; split
    · exact h n (by omega)
    · exact gpf_ok h n (by omega)
/-- the pairs that misfit, by their number -/
def mf (T : Nat → Nat → Bool) (Gp : Nat → Nat) (Ph : Nat → Int32) (i : Nat) : Bool := OV T Gp (i / 16) (i % 16) && (decide (¬ GP Gp Ph (i % 16) = -1) && decide (¬ GP Gp Ph (i / 16) ≤ GP Gp Ph (i % 16)))
def fnd (p : Nat → Bool) : Nat → Nat → Int32 → Option Nat
  | 0, _, _ => none
  | d + 1, i, l => if p i then (if l = 0 then some i else fnd p d (i + 1) (l + (-1))) else fnd p d (i + 1) l
section
variable {T : Nat → Nat → Bool} {Gp : Nat → Nat} {Ph : Nat → Int32} {Hd Th : Nat → Bool} {σ τ : S0}
theorem sp_in {a lo hi : Int32} {post : Int32 → S0 → Prop} (h1 : ¬ a < lo → ¬ hi < a → post 1 τ) (h0 : a < lo ∨ hi < a → post 0 τ) : Sp_R_in a lo hi τ post := by
  unfold Sp_R_in
  exact ⟨fun c => h0 (Or.inl c), fun c => ⟨fun c2 => h0 (Or.inr c2), fun c2 => h1 c c2⟩⟩
theorem okPh_in {p : Int32} : (¬ p < (-1) ∧ ¬ 5 < p) ↔ okPh p := by
  have e5 : (5 : Int32).toInt = 5 := by decide
  have e1 : ((-1 : Int32)).toInt = -1 := by decide
  constructor
  · rintro ⟨h1, h2⟩
    rw [Int32.lt_iff_toInt_lt] at h1 h2
    by_cases h : p = -1
    · exact Or.inl h
    · have hne : p.toInt ≠ -1 := fun q => h (Int32.toInt_inj.mp (by rw [q, e1]))
      obtain ⟨j, hj, rfl⟩ := nI_of (x := p) (by rw [Int32.lt_iff_toInt_lt, Int32.toInt_zero]; omega)
      rw [nI_toInt hj] at h2
      exact Or.inr ⟨j, by omega, rfl⟩
  · rintro (rfl | ⟨q, hq, rfl⟩)
    · decide
    · rw [Int32.lt_iff_toInt_lt, Int32.lt_iff_toInt_lt, nI_toInt (by omega)]; omega
theorem rf_phase (hR : RD T Gp Ph Hd Th τ) {a p : Int32} {post : Int32 → S0 → Prop}
    (hbad : (¬ ∃ i, i < 16 ∧ a = nI i) → ∀ τ', RF τ τ' → τ' 0 0 = 1 → post 0 τ') (hbad2 : (∃ i, i < 16 ∧ a = nI i) → ¬ okPh p → ∀ τ', RF τ τ' → τ' 0 0 = 2 → post 0 τ')
    (hgood : ∀ i, i < 16 → a = nI i → okPh p → ∀ τ', RD T Gp (upP Ph i p) Hd (upS Th i) τ' → τ' 0 1 = 0 → τ' 0 0 = 0 → post (Ph i) τ') : Sp_R_phase a p τ post := by
  unfold Sp_R_phase
  intro G13 G27 h13 h27
  have bad : (¬ ∃ i, i < 16 ∧ a = nI i) → ∀ t2, G27 a p 1 t2 τ := fun q t2 => h27 _ _ _ _ _ (sp_throwing (fun _ => ⟨fun c => absurd c (by decide), fun _ => hbad q _ RF.put0 (st_same _ _ _ _)⟩) (fun c => absurd c (by decide)) (fun c => absurd c (by decide)))
  refine sp_isCtx (fun i hi ea => ⟨fun _ => ?_, fun c => absurd c (by decide)⟩) (fun q => ⟨fun c => absurd rfl c, fun _ => h13 _ _ _ _ (sp_in (fun _ _ => ⟨fun _ => bad q 0, fun c => absurd c (by decide)⟩) (fun _ => ⟨fun c => absurd rfl c, fun _ => bad q 1⟩))⟩)
  refine h13 _ _ _ _ (sp_in (fun c1 c2 => ⟨fun _ => ?_, fun c => absurd c (by decide)⟩) (fun c1 => ⟨fun c => absurd rfl c, fun _ => ?_⟩))
  · have hp := okPh_in.mp ⟨c1, c2⟩
    refine h27 _ _ _ _ _ (sp_throwing (fun c => absurd rfl c) (fun _ c => absurd rfl c) (fun _ _ => ⟨fun _ => ?_, fun c => absurd rfl c⟩))
    have f0 : RF τ (st τ 0 0 0) := RF.put0
    have z0 : st τ 0 0 0 0 0 = 0 := st_same _ _ _ _
    generalize st τ 0 0 0 = σ5 at f0 z0
    obtain ⟨r1, r2, r3, r4, r5⟩ := hR.frame f0
    subst ea
    refine ⟨in16 hi, fun v7 e7 => ⟨in16 hi, fun σ8 e8 => ?_⟩⟩
    rw [cl (by omega : i < 2 ^ 31)] at e7 e8
    rw [e7, r3 i hi]
    have k8 : ∀ b, b ≠ 3 → σ8 b = σ5 b := fun b hb => by rw [e8, st_ne hb]
    refine sp_name hi hi (fun σ9 f9 n9 h9 z9 => hgood i hi rfl hp σ9 ⟨fun a b ha hb => ?_, fun c hc => ?_, fun c hc => ?_, fun c hc => ?_, fun c hc => ?_⟩ h9 (by rw [z9, k8 0 (by decide), z0]))
    · rw [f9 1 (by decide) (by decide), k8 1 (by decide)]; exact r1 a b ha hb
    · rw [f9 2 (by decide) (by decide), k8 2 (by decide)]; exact r2 c hc
    · rw [f9 3 (by decide) (by decide), e8, st_app]
      unfold upP
      by_cases q : c = i
      · simp [q]
      · simp [q]; exact r3 c hc
    · rw [f9 4 (by decide) (by decide), k8 4 (by decide)]; exact r4 c hc
    · rw [n9 c, k8 5 (by decide), named (r5 c hc)]
      unfold upS; simp
  · have hp : ¬ okPh p := fun q => by
      have := okPh_in.mpr q
      exact c1.elim this.1 this.2
    exact h27 _ _ _ _ _ (sp_throwing (fun c => absurd rfl c) (fun _ _ => ⟨fun c => absurd c (by decide), fun _ => hbad2 ⟨i, hi, ea⟩ hp _ RF.put0 (st_same _ _ _ _)⟩) (fun _ c => absurd c (by decide)))
theorem rf_hide (hR : RD T Gp Ph Hd Th τ) (hW : WF T Gp Ph Hd Th) {a : Int32} {on : Bool} {post : Int32 → S0 → Prop}
    (hbad : (¬ ∃ i, i < 16 ∧ a = nI i) → ∀ τ', RF τ τ' → τ' 0 0 = 1 → post 0 τ')
    (hgood : ∀ i, i < 16 → a = nI i → (Hd i = on → ∀ τ', RD T Gp Ph Hd Th τ' → τ' 0 1 = 0 → τ' 0 0 = 0 → post 0 τ') ∧ (Hd i ≠ on → ∀ τ', RD T Gp Ph (upB Hd i on) (upS Th i) τ' → τ' 0 1 = 0 → τ' 0 0 = 0 → post 1 τ')) : Sp_R_hide a (if on then 1 else 0) τ post := by
  unfold Sp_R_hide
  intro G13 G65 h13 h65
  refine sp_isCtx (fun i hi ea => ⟨fun _ => ?_, fun c => absurd c (by decide)⟩) (fun q => ⟨fun c => absurd rfl c, fun _ => h13 _ _ _ _ (sp_throwing (fun _ => ⟨fun c => absurd c (by decide), fun _ => hbad q _ RF.put0 (st_same _ _ _ _)⟩) (fun c => absurd c (by decide)) (fun c => absurd c (by decide)))⟩)
  obtain ⟨g1, g2⟩ := hgood i hi ea
  subst ea
  refine h13 _ _ _ _ (sp_throwing (fun c => absurd rfl c) (fun _ c => absurd rfl c) (fun _ _ => ⟨fun _ => ?_, fun c => absurd rfl c⟩))
  have f0 : RF τ (st τ 0 0 0) := RF.put0
  have z0 : st τ 0 0 0 0 0 = 0 := st_same _ _ _ _
  generalize st τ 0 0 0 = σ3 at f0 z0
  obtain ⟨r1, r2, r3, r4, r5⟩ := hR.frame f0
  refine ⟨in16 hi, fun v5 e5 => ⟨in16 hi, ?_, fun σ6 e6 σ7 e7 => ⟨in16 hi, ?_⟩⟩⟩
  · cases on; exact Or.inl rfl; exact Or.inr rfl
  rw [cl (by omega : i < 2 ^ 31)] at e5 e6 ⊢
  rw [r4 i hi] at e5
  have hon : (if on then (1 : Int32) else 0) = b2i on := rfl
  rw [hon] at e6 ⊢
  have k7 : ∀ b, b ≠ 0 → b ≠ 4 → σ7 b = σ3 b := fun b h0 h4 => by rw [e7, st_ne h0, e6, st_ne h4]
  have e75 : σ7 5 i = b2i (Th i) := by rw [k7 5 (by decide) (by decide)]; exact r5 i hi
  have inj : b2i (Hd i) = b2i on ↔ Hd i = on := by cases Hd i <;> cases on <;> decide
  have h4 : ∀ c, c < 16 → σ7 4 c = b2i (upB Hd i on c) := fun c hc => by
    rw [e7, st_ne (by decide), e6, st_app]
    unfold upB
    by_cases q : c = i
    · simp [q]
    · simp [q]; exact r4 c hc
  have fin : ∀ t2 : Bool, (Hd i = on → t2 = Th i) → (Hd i ≠ on → t2 = true) → G65 (b2i on) v5 (nI i) (b2i t2) σ7 := by
    intro t2 q1 q2
    refine h65 _ _ _ _ _ ⟨in16 hi, b2i_bo _, fun σ8 e8 => ?_⟩
    rw [cl (by omega : i < 2 ^ 31)] at e8
    have k8 : ∀ b, b ≠ 5 → σ8 b = σ7 b := fun b hb => by rw [e8, st_ne hb]
    have z8 : σ8 0 0 = 0 := by rw [k8 0 (by decide), e7, st_other (by decide), e6, st_ne (by decide)]; exact z0
    have y8 : σ8 0 1 = 0 := by rw [k8 0 (by decide), e7, st_same]
    rw [e5, inj]
    refine ⟨fun c => g1 c σ8 ⟨fun a b ha hb => ?_, fun c hc => ?_, fun c hc => ?_, fun d hd => ?_, fun d hd => ?_⟩ y8 z8, fun c => g2 c σ8 ⟨fun a b ha hb => ?_, fun c hc => ?_, fun c hc => ?_, fun d hd => ?_, fun d hd => ?_⟩ y8 z8⟩
    · rw [k8 1 (by decide), k7 1 (by decide) (by decide)]; exact r1 a b ha hb
    · rw [k8 2 (by decide), k7 2 (by decide) (by decide)]; exact r2 c hc
    · rw [k8 3 (by decide), k7 3 (by decide) (by decide)]; exact r3 c hc
    · rw [k8 4 (by decide), h4 d hd]
      unfold upB
      by_cases q : d = i
      · subst q; simp [c]
      · simp [q]
    · rw [e8, st_app, q1 c]
      by_cases q : d = i
      · subst q; simp
      · rw [if_neg (by simp [q]), k7 5 (by decide) (by decide)]; exact r5 d hd
    · rw [k8 1 (by decide), k7 1 (by decide) (by decide)]; exact r1 a b ha hb
    · rw [k8 2 (by decide), k7 2 (by decide) (by decide)]; exact r2 c hc
    · rw [k8 3 (by decide), k7 3 (by decide) (by decide)]; exact r3 c hc
    · rw [k8 4 (by decide)]; exact h4 d hd
    · rw [e8, st_app, q2 c]
      unfold upS
      by_cases q : d = i
      · subst q; simp
      · rw [if_neg (by simp [q]), k7 5 (by decide) (by decide)]; simp [q]; exact r5 d hd
  rw [e75]
  refine ⟨fun c => fin true (fun q => ?_) (fun _ => rfl), fun c => ⟨fun c2 => fin false (fun q => (b2i_0.mp c).symm) (fun q => absurd (inj.mp (by rw [← e5]; exact c2)) q), fun c2 => fin true (fun q => absurd (by rw [e5, q]) c2) (fun _ => rfl)⟩⟩
  cases q9 : Th i
  · rw [q9] at c; exact absurd rfl c
  · rfl
theorem rf_group (hR : RD T Gp Ph Hd Th τ) {a : Int32} {post : Int32 → S0 → Prop} (hbad : (¬ ∃ i, i < 16 ∧ a = nI i) → ∀ τ', RF τ τ' → τ' 0 0 = 1 → post 0 τ') (hgood : ∀ i, i < 16 → a = nI i → ∀ τ', RF τ τ' → τ' 0 0 = 0 → post (nI (Gp i)) τ') : Sp_R_group a τ post := by
  unfold Sp_R_group
  intro G13 h13
  refine sp_isCtx (fun i hi ea => ⟨fun _ => ?_, fun c => absurd c (by decide)⟩) (fun q => ⟨fun c => absurd rfl c, fun _ => h13 _ _ _ (sp_throwing (fun _ => ⟨fun c => absurd c (by decide), fun _ => hbad q _ RF.put0 (st_same _ _ _ _)⟩) (fun c => absurd c (by decide)) (fun c => absurd c (by decide)))⟩)
  refine h13 _ _ _ (sp_throwing (fun c => absurd rfl c) (fun _ c => absurd rfl c) (fun _ _ => ⟨fun _ => ?_, fun c => absurd rfl c⟩))
  subst ea
  refine ⟨in16 hi, ?_⟩
  have f0 : RF τ (st τ 0 0 0) := RF.put0
  rw [cl (by omega : i < 2 ^ 31), (hR.frame f0).2.1 i hi]
  exact hgood i hi rfl _ f0 (st_same _ _ _ _)
theorem sp_phaseOf (hG : ∀ c, c < 16 → τ 2 c = nI (Gp c)) (hP : ∀ c, c < 16 → τ 3 c = Ph c) (h16 : ∀ c, c < 16 → Gp c < 16) (hok : ∀ c, c < 16 → okPh (Ph c)) {g : Nat} (hg : g < 16) {post : Int32 → S0 → Prop} (h : post (GP Gp Ph g) τ) : Sp_R_phaseOf (nI g) τ post := by
  unfold Sp_R_phaseOf
  intro G4 G43 h4 h43
  have loop : ∀ k (u : Unit), k ≤ 16 → True → G4 (nI g) (gpf Gp Ph g k) (nI k) τ := by
    refine upto 16 (fun k (_ : Unit) => G4 (nI g) (gpf Gp Ph g k) (nI k) τ) (fun _ _ => True) (fun _ _ => ?_) (fun k _ hk _ ih => ?_)
    · exact h4 _ _ _ _ ⟨fun _ => h, fun c => absurd ((le16 (by omega)).mpr (by omega)) c⟩
    · have gk := h16 k hk
      have ok := gpf_ok (g := g) (Gp := Gp) hok k (by omega)
      have same : ¬ (Gp k = g ∧ (¬ Ph k = -1 ∧ (gpf Gp Ph g k = -1 ∨ ¬ gpf Gp Ph g k ≤ Ph k))) → G4 (nI g) (gpf Gp Ph g k) (nI k + 1) τ := fun q => by
        have := ih () trivial
        rw [gpf, if_neg q] at this
        rw [nI_1]; exact this
      have set : (Gp k = g ∧ (¬ Ph k = -1 ∧ (gpf Gp Ph g k = -1 ∨ ¬ gpf Gp Ph g k ≤ Ph k))) → G43 (nI g) (nI k) τ := fun q => by
        refine h43 _ _ _ ⟨in16 hk, fun v1 e1 => ?_⟩
        have := ih () trivial
        rw [gpf, if_pos q] at this
        rw [nI_1, e1, cl (by omega : k < 2 ^ 31), hP k hk]; exact this
      refine h4 _ _ _ _ ⟨fun c => absurd ((le16 (by omega)).mp c) (by omega), fun _ => ⟨in16 hk, ?_⟩⟩
      rw [cl (by omega : k < 2 ^ 31), hG k hk, hP k hk, nIx (by omega) (by omega), okPh_neg (hok k hk), okPh_neg ok]
      exact ⟨fun c => same (fun q => c q.1), fun c => ⟨in16 hk, fun c2 => same (fun q => q.2.1 c2), fun c2 => ⟨fun c3 => set ⟨c, c2, Or.inl c3⟩, fun c3 => ⟨in16 hk, fun c4 => same (fun q => q.2.2.elim c3 (fun z => z c4)), fun c4 => set ⟨c, c2, Or.inr c4⟩⟩⟩⟩⟩
  exact loop 0 () (by omega) trivial
theorem sp_misfits (hR : RD T Gp Ph Hd Th τ) (hW : WF T Gp Ph Hd Th) (h6 : ∀ i j, i < 16 → j < 16 → τ 6 (16 * i + j) = b2i (OV T Gp i j)) {u w : Nat} (hu : u < 16) (hw : w < 16) {post : Int32 → S0 → Prop} (h : post (b2i (mf T Gp Ph (16 * u + w))) τ) : Sp_R_misfits (nI u) (nI w) τ post := by
  obtain ⟨r1, r2, r3, r4, r5⟩ := hR
  have ph : ∀ g, g < 16 → ∀ {post : Int32 → S0 → Prop}, post (GP Gp Ph g) τ → Sp_R_phaseOf (nI g) τ post := fun g hg _ hp => sp_phaseOf r2 r3 (fun c hc => hW.lt hc) hW.2.2.2.2.2.1 hg hp
  have ok : okPh (GP Gp Ph w) := gpf_ok hW.2.2.2.2.2.1 16 (by omega)
  unfold Sp_R_misfits
  rw [mul16, nI_add, cl (by omega : 16 * u + w < 2 ^ 31), h6 u w hu hw]
  unfold mf at h
  rw [show (16 * u + w) / 16 = u by omega, show (16 * u + w) % 16 = w by omega] at h
  refine ⟨in256 (by omega), fun c => ?_, fun c => ph w hw ⟨fun c2 => ?_, fun c2 => ph u hu (ph w hw ⟨fun c3 => ?_, fun c3 => ?_⟩)⟩⟩
  · rw [b2i_0.mp c, Bool.false_and] at h; exact h
  · rw [okPh_neg ok] at c2
    simp [c2, b2i] at h; exact h
  · simp [c3, b2i] at h; exact h
  · have c2' : ¬ GP Gp Ph w = -1 := fun q => c2 ((okPh_neg ok).mpr q)
    have c1 : OV T Gp u w = true := by
      cases q : OV T Gp u w
      · rw [q] at c; exact absurd rfl c
      · rfl
    rw [c1, decide_eq_true c2', decide_eq_true c3] at h
    exact h
end
