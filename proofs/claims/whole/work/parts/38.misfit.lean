/-! misfit() on both sides. -/
section
variable {T : Nat → Nat → Bool} {Gp : Nat → Nat} {Ph : Nat → Int32} {Hd Th : Nat → Bool} {σ τ : S0}
theorem sp_later (h5 : ∀ g, g < 16 → σ 5 g = GP Gp Ph g) {u w : Nat} (hu : u < 16) (hw : w < 16) {post : Int32 → S0 → Prop} (h : post (b2i (decide (¬ GP Gp Ph w = -1) && decide (¬ GP Gp Ph u ≤ GP Gp Ph w))) σ) : Sp_D_isLaterPhase (nI u) (nI w) σ post := by
  unfold Sp_D_isLaterPhase
  rw [cl (by omega : u < 2 ^ 31), cl (by omega : w < 2 ^ 31), h5 u hu, h5 w hw]
  refine ⟨in16 hw, fun c => ?_, fun c => ⟨in16 hu, in16 hw, fun c2 => ?_, fun c2 => ?_⟩⟩
  · simp [c, b2i] at h; exact h
  · simp [c2, b2i] at h; exact h
  · rw [decide_eq_true c, decide_eq_true c2] at h; exact h
def mfAns (o : Option Nat) : Int32 := match o with
  | none => -1
  | some i => nI i
theorem sp_findMisfit (hC : CD T Gp Ph Hd Th σ) {a : Int32} {post : Int32 → S0 → Prop} (h : post (mfAns (fnd (mf T Gp Ph) 256 0 a)) σ) : Sp_D_findMisfit a σ post := by
  obtain ⟨c1, c2, c3, c4, c5, c6, c7, c8, c9⟩ := hC
  unfold Sp_D_findMisfit
  intro G4 G13 h4 h13
  have loop : ∀ d i left, d + i = 256 → 0 < d → post (mfAns (fnd (mf T Gp Ph) d i left)) σ → G13 left (nI (i / 16)) (nI (i % 16)) σ := by
    intro d
    induction d with
    | zero => intro i left _ h0; omega
    | succ d ih =>
      intro i left hd _ hp
      have hu : i / 16 < 16 := by omega
      have hw : i % 16 < 16 := by omega
      have nx : ∀ l2, post (mfAns (fnd (mf T Gp Ph) d (i + 1) l2)) σ → G13 l2 (nI (i / 16)) (nI (i % 16) + 1) σ := by
        intro l2 hp2
        rw [nI_1]
        by_cases q : i % 16 + 1 < 16
        · have := ih (i + 1) l2 (by omega) (by omega) hp2
          rw [show (i + 1) / 16 = i / 16 by omega, show (i + 1) % 16 = i % 16 + 1 by omega] at this
          exact this
        · refine h13 _ _ _ _ ⟨fun _ => ?_, fun c => absurd ((le16 (by omega)).mpr (by omega)) c⟩
          rw [nI_1]
          refine h4 _ _ _ ⟨fun c => ?_, fun c => ?_⟩
          · rw [le16 (by omega)] at c
            have : d = 0 := by omega
            subst this; exact hp2
          · rw [le16 (by omega)] at c
            have := ih (i + 1) l2 (by omega) (by omega) hp2
            rw [show (i + 1) / 16 = i / 16 + 1 by omega, show (i + 1) % 16 = 0 by omega] at this
            exact this
      refine h13 _ _ _ _ ⟨fun c => absurd ((le16 (by omega)).mp c) (by omega), fun _ => ⟨in16 hu, ?_⟩⟩
      rw [cl (by omega : i / 16 < 2 ^ 31)]
      rw [fnd] at hp
      refine sp_hasS (c9 _ hu) hw (fun ho => ⟨fun c => absurd c (by decide), fun _ => sp_later c7 hu hw ⟨fun c => ?_, fun c => ?_⟩⟩) (fun ho => ⟨fun _ => nx left ?_, fun c => absurd rfl c⟩)
      · have : mf T Gp Ph i = false := by unfold mf; rw [b2i_0.mp c, Bool.and_false]
        rw [this] at hp
        exact nx left (by simpa using hp)
      · have : mf T Gp Ph i = true := by
          unfold mf
          rw [ho, Bool.true_and]
          cases q : (decide (¬ GP Gp Ph (i % 16) = -1) && decide (¬ GP Gp Ph (i / 16) ≤ GP Gp Ph (i % 16)))
          · rw [q] at c; exact absurd rfl c
          · rfl
        rw [this, if_pos rfl] at hp
        refine ⟨fun c2 => nx _ (by rw [if_neg c2] at hp; exact hp), fun c2 => ?_⟩
        rw [if_pos c2] at hp
        rw [mul16, nI_add, show 16 * (i / 16) + i % 16 = i by omega]
        exact hp
      · have : mf T Gp Ph i = false := by unfold mf; rw [ho, Bool.false_and]
        rw [this] at hp
        simpa using hp
  exact h4 _ _ _ ⟨fun c => absurd ((le16 (k := 0) (by omega)).mp c) (by omega), fun _ => loop 256 0 a (by omega) (by omega) h⟩
theorem fnd_lt {p : Nat → Bool} : ∀ d i l {r : Nat}, fnd p d i l = some r → r < i + d
  | 0, _, _, _, h => by simp [fnd] at h
  | d + 1, i, l, r, h => by
    rw [fnd] at h
    split at h
    · split at h
      · cases h; omega
      · have := fnd_lt d (i + 1) _ h; omega
    · have := fnd_lt d (i + 1) _ h; omega
def misAns (o : Option Nat) (which : Int32) : Int32 := match o with
  | none => -1
  | some i => if which = 0 then nI (i / 16) else nI (i % 16)
abbrev okMis (k which : Int32) : Prop := ¬ k < 0 ∧ (which = 0 ∨ which = 1)
theorem cl_misfit (hC : CD T Gp Ph Hd Th σ) {k w : Int32} {post : Int32 → S0 → Prop} {px : Nat → S0 → Prop} (hbad : ¬ okMis k w → px 0 σ) (hgood : okMis k w → post (misAns (fnd (mf T Gp Ph) 256 0 k) w) σ) : Sp_M_misfit k w σ post px := by
  unfold Sp_M_misfit
  intro G18 h18
  have bad : ¬ okMis k w → G18 k w 0 σ := fun q => h18 _ _ _ _ ⟨fun c => absurd rfl c, fun _ => hbad q⟩
  have good : okMis k w → G18 k w 1 σ := fun q => by
    refine h18 _ _ _ _ ⟨fun _ => sp_findMisfit hC ?_, fun c => absurd c (by decide)⟩
    have hg := hgood q
    cases hf : fnd (mf T Gp Ph) 256 0 k with
    | none =>
      rw [hf] at hg
      exact ⟨fun c => absurd rfl c, fun _ => hg⟩
    | some i =>
      rw [hf] at hg
      have hi := fnd_lt 256 0 k hf
      have e1 : mfAns (some i) = nI i := rfl
      have hne : ¬ nI i = -1 := fun z => by
        have h1 := congrArg Int32.toInt z
        rw [nI_toInt (by omega)] at h1
        have : ((-1 : Int32)).toInt = -1 := by decide
        omega
      rw [e1]
      rw [d16 (by omega), m16 (by omega)]
      refine ⟨fun _ => ⟨fun c => ?_, fun c => ?_⟩, fun c => absurd c hne⟩
      · have : misAns (some i) w = nI (i % 16) := if_neg c
        rw [this] at hg; exact hg
      · have : misAns (some i) w = nI (i / 16) := if_pos c
        rw [this] at hg; exact hg
  refine ⟨fun c => bad (fun q => q.1 c), fun c => ⟨fun c2 => good ⟨c, Or.inl c2⟩, fun c2 => ⟨fun c3 => bad (fun q => q.2.elim c2 c3), fun c3 => good ⟨c, Or.inr c3⟩⟩⟩⟩
theorem in01 {w : Int32} : (¬ w < 0 ∧ ¬ 1 < w) ↔ (w = 0 ∨ w = 1) := by
  constructor
  · rintro ⟨h1, h2⟩
    obtain ⟨j, hj, rfl⟩ := nI_of h1
    rw [Int32.lt_iff_toInt_lt, nI_toInt hj] at h2
    have e : (1 : Int32).toInt = 1 := by decide
    have : j = 0 ∨ j = 1 := by omega
    rcases this with rfl | rfl
    · exact Or.inl rfl
    · exact Or.inr rfl
  · rintro (rfl | rfl) <;> decide
theorem rf_misfit (hR : RD T Gp Ph Hd Th τ) (hW : WF T Gp Ph Hd Th) {k w : Int32} {post : Int32 → S0 → Prop} (hbad : ¬ okMis k w → ∀ τ', RF τ τ' → τ' 0 0 = 1 → post 0 τ') (hgood : okMis k w → ∀ τ', RF τ τ' → τ' 0 0 = 0 → post (misAns (fnd (mf T Gp Ph) 256 0 k) w) τ') : Sp_R_misfit k w τ post := by
  unfold Sp_R_misfit
  intro G19 G37 h19 h37
  have bad : ¬ okMis k w → G19 k w 1 τ := fun q => h19 _ _ _ _ (sp_throwing (fun _ => ⟨fun c => absurd c (by decide), fun _ => hbad q _ RF.put0 (st_same _ _ _ _)⟩) (fun c => absurd c (by decide)) (fun c => absurd c (by decide)))
  have good : okMis k w → G19 k w 0 τ := fun q => by
    refine h19 _ _ _ _ (sp_throwing (fun c => absurd rfl c) (fun _ c => absurd rfl c) (fun _ _ => ⟨fun _ => ?_, fun c => absurd rfl c⟩))
    have f0 : RF τ (st τ 0 0 0) := RF.put0
    have z0 : st τ 0 0 0 0 0 = 0 := st_same _ _ _ _
    generalize st τ 0 0 0 = σ3 at f0 z0
    have hR3 := hR.frame f0
    refine sp_findOver hR3 (fun c hc => hW.lt hc) (fun σ5 f5 h6 => ?_)
    have hR5 := hR3.frame (RF.six f5)
    have hp := hgood q σ5 (f0.trans (RF.six f5)) (by rw [f5 0 (by decide), z0])
    have loop : ∀ d i left, d + i = 256 → post (misAns (fnd (mf T Gp Ph) d i left) w) σ5 → G37 w left (nI i) σ5 := by
      intro d
      induction d with
      | zero =>
        intro i left hd hp
        have : i = 256 := by omega
        subst this
        exact h37 _ _ _ _ ⟨fun _ => hp, fun c => absurd ((le256 (by omega)).mpr (by omega)) c⟩
      | succ d ih =>
        intro i left hd hp
        refine h37 _ _ _ _ ⟨fun c => absurd ((le256 (by omega)).mp c) (by omega), fun _ => ?_⟩
        rw [d16 (by omega), m16 (by omega), nI_1]
        refine sp_misfits hR5 hW h6 (by omega) (by omega) ?_
        rw [show 16 * (i / 16) + i % 16 = i by omega]
        rw [fnd] at hp
        cases hm : mf T Gp Ph i
        · rw [hm] at hp
          exact ⟨fun c => absurd rfl c, fun _ => ih (i + 1) left (by omega) (by simpa using hp)⟩
        · rw [hm, if_pos rfl] at hp
          refine ⟨fun _ => ⟨fun c => ih (i + 1) _ (by omega) (by rw [if_neg c] at hp; exact hp), fun c => ?_⟩, fun c => absurd c (by decide)⟩
          rw [if_pos c] at hp
          refine ⟨fun c2 => ?_, fun c2 => ?_⟩
          · have : misAns (some i) w = nI (i % 16) := if_neg c2
            rw [this] at hp; exact hp
          · have : misAns (some i) w = nI (i / 16) := if_pos c2
            rw [this] at hp; exact hp
    exact loop 256 0 k (by omega) hp
  refine ⟨fun c => bad (fun q => q.1 c), fun c => sp_in (fun c2 c3 => ⟨fun _ => good ⟨c, in01.mp ⟨c2, c3⟩⟩, fun c => absurd c (by decide)⟩) (fun c2 => ⟨fun c => absurd rfl c, fun _ => bad (fun q => ?_)⟩)⟩
  have := in01.mpr q.2
  exact c2.elim this.1 this.2
end
