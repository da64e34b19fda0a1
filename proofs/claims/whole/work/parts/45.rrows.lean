/-! The reference's rows: the same, by going on until nothing changes. -/
def Fx (f : Nat → Nat → Bool) (ρ : Nat → Nat) (g : Nat) : Nat := maxN 16 (fun a => if f a g = true then ρ a + 1 else 0)
theorem Fx_mono {f : Nat → Nat → Bool} {ρ ρ' : Nat → Nat} {g : Nat} (h : ∀ a, a < 16 → f a g = true → ρ a ≤ ρ' a) : Fx f ρ g ≤ Fx f ρ' g := by
  refine maxN_le 16 (fun a ha => ?_)
  have := le_maxN (f := fun a => if f a g = true then ρ' a + 1 else 0) 16 ha
  by_cases q : f a g = true
  · rw [if_pos q]; rw [if_pos q] at this
    have h2 := h a ha q
    unfold Fx; omega
  · rw [if_neg q]; exact Nat.zero_le _
theorem maxN_some {f : Nat → Nat} : ∀ n, maxN n f = 0 ∨ ∃ k, k < n ∧ maxN n f = f k
  | 0 => Or.inl rfl
  | n + 1 => by
    rw [maxN]
    rcases Nat.le_total (maxN n f) (f n) with q | q
    · exact Or.inr ⟨n, by omega, by omega⟩
    · rcases maxN_some (f := f) n with h | ⟨k, hk, h⟩
      · left; omega
      · exact Or.inr ⟨k, by omega, by omega⟩
section
variable {d : Nat → Bool} {f : Nat → Nat → Bool}
theorem Fx_Rw (hr : Ranked d f) {g : Nat} (hg : g < 16) (hd : d g = true) : Fx f (Rw d f) g = Rw d f g := by
  refine Nat.le_antisymm (maxN_le 16 (fun a ha => ?_)) ?_
  · by_cases q : f a g = true
    · rw [if_pos q]; exact Rw_ahead hr ha hg hd q
    · rw [if_neg q]; exact Nat.zero_le _
  · cases hm : Rw d f g with
    | zero => exact Nat.zero_le _
    | succ m =>
      obtain ⟨a, ha, hf, hle⟩ := Rw_some hr hg hd hm
      have := le_maxN (f := fun a => if f a g = true then Rw d f a + 1 else 0) 16 ha
      rw [if_pos hf] at this
      unfold Fx; omega
theorem Fx_unique (hr : Ranked d f) (hdf : ∀ a g, f a g = true → d a = true) {ρ : Nat → Nat} (hfix : ∀ g, g < 16 → d g = true → Fx f ρ g = ρ g) : ∀ n g, Rw d f g < n → g < 16 → d g = true → ρ g = Rw d f g := by
  intro n
  induction n with
  | zero => intro g h; omega
  | succ n ih =>
    intro g hn hg hd
    rw [← hfix g hg hd, ← Fx_Rw hr hg hd]
    unfold Fx
    have : ∀ a, a < 16 → (if f a g = true then ρ a + 1 else 0) = (if f a g = true then Rw d f a + 1 else 0) := fun a ha => by
      by_cases q : f a g = true
      · rw [if_pos q, if_pos q, ih a (by have := Rw_ahead hr ha hg hd q; omega) ha (hdf a g q)]
      · rw [if_neg q, if_neg q]
    have cg : ∀ m, m ≤ 16 → maxN m (fun a => if f a g = true then ρ a + 1 else 0) = maxN m (fun a => if f a g = true then Rw d f a + 1 else 0) := by
      intro m
      induction m with
      | zero => intro _; rfl
      | succ m ihm => intro hm; rw [maxN, maxN, ihm (by omega), this m (by omega)]
    exact cg 16 (by omega)
end
section
variable {T : Nat → Nat → Bool} {Gp : Nat → Nat} {Ph : Nat → Int32} {Hd Th : Nat → Bool} {σ τ : S0}
theorem in166 {k : Nat} (h : k < 166) : vp_in (nI k) 166 := vp_in_nI h (by omega)
theorem fr_irr (hW : WF T Gp Ph Hd Th) {g : Nat} (hg : g < 16) : FR T Gp Ph Hd Th g g = false := by
  cases q : FR T Gp Ph Hd Th g g
  · rfl
  · unfold FR at q
    rw [Bool.and_eq_true, Bool.or_eq_true, Bool.and_eq_true, decide_eq_true_eq, decide_eq_true_eq] at q
    rcases q.2 with h | h
    · have := lc_ov hg hg h
      rw [hW.2.2.2.2.2.2 g hg] at this; cases this
    · exact absurd ((pn_le (gp_ok hW g) (gp_ok hW g)).mpr (Nat.le_refl _)) h.2
theorem sp_rowOf (hR : RD T Gp Ph Hd Th τ) (hW : WF T Gp Ph Hd Th) (h7 : ∀ k, k < 256 → τ 7 k = b2i (lk T Gp Hd Th k)) {ρ : Nat → Nat} (hρ : ∀ g, g < 16 → ρ g < 100) (h8 : ∀ g, g < 16 → Dr Gp Hd Th g = true → τ 8 g = nI (ρ g)) {g : Nat} (hg : g < 16) (hd : Dr Gp Hd Th g = true) {post : Int32 → S0 → Prop} (h : post (nI (Fx (FR T Gp Ph Hd Th) ρ g)) τ) : Sp_R_rowOf (nI g) τ post := by
  have hok := hW.2.2.2.2.2.1
  have ph : ∀ c, c < 16 → ∀ {post : Int32 → S0 → Prop}, post (GP Gp Ph c) τ → Sp_R_phaseOf (nI c) τ post := fun c hc _ hp => sp_phaseOf hR.2.1 hR.2.2.1 (fun c hc => hW.lt hc) hok hc hp
  unfold Sp_R_rowOf
  intro G4 G66 h4 h66
  have bound : ∀ k, k ≤ 16 → maxN k (fun a => if FR T Gp Ph Hd Th a g = true then ρ a + 1 else 0) ≤ 100 := fun k hk => maxN_le k (fun a ha => by
    have := hρ a (by omega)
    split <;> omega)
  refine upto 16 (fun k (_ : Unit) => G4 (nI g) (nI (maxN k (fun a => if FR T Gp Ph Hd Th a g = true then ρ a + 1 else 0))) (nI k) τ) (fun _ _ => True) (fun _ _ => ?_) (fun k _ hk _ ih => ?_) 0 () (by omega) trivial
  · exact h4 _ _ _ _ ⟨fun _ => h, fun c => absurd ((le16 (by omega)).mpr (by omega)) c⟩
  · have ih := ih () trivial
    simp only [maxN] at ih
    have hb := bound k (by omega)
    have hrk := hρ k hk
    have no : FR T Gp Ph Hd Th k g = false → G4 (nI g) (nI (maxN k (fun a => if FR T Gp Ph Hd Th a g = true then ρ a + 1 else 0))) (nI k + 1) τ := fun q => by
      rw [nI_1]
      rw [q, if_neg (by decide), Nat.max_eq_left (Nat.zero_le _)] at ih
      exact ih
    have yes : Dr Gp Hd Th k = true → ∀ b : Bool, b = FR T Gp Ph Hd Th k g → G66 (nI g) (nI (maxN k (fun a => if FR T Gp Ph Hd Th a g = true then ρ a + 1 else 0))) (nI k) (b2i b) τ := fun hdk b hb' => by
      refine h66 _ _ _ _ _ ⟨fun c => no (by rw [← hb']; exact b2i_0.mp c), fun c => ⟨in166 (by omega), ?_⟩⟩
      have hf : FR T Gp Ph Hd Th k g = true := by rw [← hb']; exact b2i_ne c
      rw [hf, if_pos rfl] at ih
      rw [cl (by omega : k < 2 ^ 31), h8 k hk hdk, nI_1, nI_1, nI_leI (by omega) (by omega)]
      refine ⟨fun c2 => ?_, fun c2 => ⟨in166 (by omega), fun v9 e9 => ?_⟩⟩
      · rw [Nat.max_eq_left c2] at ih; exact ih
      · rw [Nat.max_eq_right (by omega)] at ih; rw [e9]; exact ih
    refine h4 _ _ _ _ ⟨fun c => absurd ((le16 (by omega)).mp c) (by omega), fun _ => ⟨fun c => ?_, fun c => ?_⟩⟩
    · have e : k = g := (nIx (by omega) (by omega)).mp c
      exact no (by rw [e]; exact fr_irr hW hg)
    · refine sp_isDrawn hR hW hk ⟨fun c2 => ?_, fun c2 => no (by unfold FR; rw [b2i_0.mp c2]; rfl)⟩
      have hdk := b2i_ne c2
      have elk : lk T Gp Hd Th (16 * k + g) = LC T Gp Hd Th k g := by
        unfold lk
        rw [show (16 * k + g) / 16 = k by omega, show (16 * k + g) % 16 = g by omega, hdk, hd, Bool.true_and, Bool.and_true]
      rw [mul16, nI_add, cl (by omega : 16 * k + g < 2 ^ 31), h7 _ (by omega), elk]
      have y1 : ∀ b : Bool, b = FR T Gp Ph Hd Th k g → G66 (nI g) (nI (maxN k (fun a => if FR T Gp Ph Hd Th a g = true then ρ a + 1 else 0))) (nI k) (b2i b) τ := yes hdk
      have ok := gp_ok hW k
      refine ⟨in256 (by omega), fun c3 => y1 true (by unfold FR; rw [hdk, b2i_ne c3]; rfl), fun c3 => ph k hk ⟨fun c4 => y1 false ?_, fun c4 => ph k hk (ph g hg ⟨fun c5 => y1 false ?_, fun c5 => y1 true ?_⟩)⟩⟩
      · unfold FR
        rw [b2i_0.mp c3, (okPh_neg ok).mp c4]; simp
      · unfold FR
        rw [b2i_0.mp c3]; simp [c5]
      · have c4' : ¬ GP Gp Ph k = -1 := fun q => c4 ((okPh_neg ok).mpr q)
        unfold FR
        rw [hdk, b2i_0.mp c3, decide_eq_true c4', decide_eq_true c5]; rfl
def meas (d : Nat → Bool) (R ρ : Nat → Nat) : Nat := sumN 16 (fun g => if d g = true then R g - ρ g else 0)
theorem sumN_lt {a b : Nat → Nat} {j : Nat} (hj : a j < b j) : ∀ n, j < n → (∀ k, k < n → a k ≤ b k) → sumN n a < sumN n b
  | 0, h, _ => by omega
  | n + 1, h, hle => by
    have hs : ∀ m, m ≤ n → sumN m a ≤ sumN m b := fun m => by
      induction m with
      | zero => intro _; exact Nat.le_refl _
      | succ m ih => intro hm; rw [sumN, sumN]; have := ih (by omega); have := hle m (by omega); omega
    rw [sumN, sumN]
    by_cases q : j = n
    · subst q; have := hs j (Nat.le_refl _); omega
    · have := sumN_lt hj n (by omega) (fun k hk => hle k (by omega))
      have := hle n (by omega); omega
set_option maxHeartbeats 2000000 in
theorem sp_rfindRows (hR : RD T Gp Ph Hd Th τ) (hW : WF T Gp Ph Hd Th) (hN : NM T Gp Ph) (h7 : ∀ k, k < 256 → τ 7 k = b2i (lk T Gp Hd Th k)) {post : S0 → Prop}
    (h : ∀ τ', (∀ b, b ≠ 8 → τ' b = τ b) → (∀ g, g < 16 → τ' 8 g = if Dr Gp Hd Th g = true then nI (RW T Gp Ph Hd Th g) else -1) → post τ') : Sp_R_findRows τ post := by
  have hr := ranked hW hN
  have hdf : ∀ a g, FR T Gp Ph Hd Th a g = true → Dr Gp Hd Th a = true := fun a g q => by
    unfold FR at q; rw [Bool.and_eq_true] at q; exact q.1
  have hR16 : ∀ g, g < 16 → Dr Gp Hd Th g = true → RW T Gp Ph Hd Th g < 16 := fun g hg q => by
    have := Rw_lt hr hg q
    have h2 : Rc (Dr Gp Hd Th) (FR T Gp Ph Hd Th) ≤ 16 := RC_le (T := T) (Gp := Gp) (Ph := Ph) (Hd := Hd) (Th := Th)
    show Rw _ _ g < 16
    omega
  unfold Sp_R_findRows
  intro G2 G26 G35 G43 h2 h26 h35 h43
  -- a state with rows ρ
  let S : (Nat → Nat) → S0 → Prop := fun ρ s => (∀ b, b ≠ 8 → s b = τ b) ∧ (∀ g, g < 16 → s 8 g = if Dr Gp Hd Th g = true then nI (ρ g) else -1)
  let I : (Nat → Nat) → Prop := fun ρ => (∀ g, g < 16 → Dr Gp Hd Th g = true → ρ g ≤ Fx (FR T Gp Ph Hd Th) ρ g ∧ ρ g ≤ RW T Gp Ph Hd Th g) ∧ ∀ g, g < 16 → ρ g < 100
  have outer : ∀ m ρ s, meas (Dr Gp Hd Th) (RW T Gp Ph Hd Th) ρ < m → I ρ → S ρ s → G35 1 s := by
    intro m
    induction m with
    | zero => intro ρ s hm; omega
    | succ m ihm =>
      intro ρ0 s0 hm0 hI0 hS0
      refine h35 _ _ ⟨fun c => absurd c (by decide), fun _ => ?_⟩
      have inner : ∀ k (u : (Nat → Nat) × (Bool × S0)), k ≤ 16 → (I u.1 ∧ S u.1 u.2.2 ∧ ((u.2.1 = false ∧ u.1 = ρ0 ∧ ∀ g, g < k → Dr Gp Hd Th g = true → Fx (FR T Gp Ph Hd Th) ρ0 g = ρ0 g) ∨ (u.2.1 = true ∧ meas (Dr Gp Hd Th) (RW T Gp Ph Hd Th) u.1 < meas (Dr Gp Hd Th) (RW T Gp Ph Hd Th) ρ0))) → G43 (b2i u.2.1) (nI k) u.2.2 := by
        refine upto 16 (fun k (u : (Nat → Nat) × (Bool × S0)) => G43 (b2i u.2.1) (nI k) u.2.2) _ (fun u hJ => ?_) (fun k u hk hJ ih => ?_)
        · obtain ⟨ρ, ch, s⟩ := u
          obtain ⟨j1, j2, j3⟩ := hJ
          dsimp only at j1 j2 j3 ⊢
          refine h43 _ _ _ ⟨fun _ => ?_, fun c => absurd ((le16 (by omega)).mpr (by omega)) c⟩
          rcases j3 with ⟨q1, q2, q3⟩ | ⟨q1, q2⟩
          · subst q1; subst q2
            refine h35 _ _ ⟨fun _ => h s j2.1 (fun g hg => ?_), fun c => absurd rfl c⟩
            rw [j2.2 g hg]
            by_cases q : Dr Gp Hd Th g = true
            · rw [if_pos q, if_pos q, Fx_unique hr hdf (fun g hg hd => q3 g hg hd) (RW T Gp Ph Hd Th g + 1) g (Nat.lt_succ_self _) hg q]
            · rw [if_neg q, if_neg q]
          · subst q1
            exact ihm ρ s (by omega) j1 j2
        · obtain ⟨ρ, ch, s⟩ := u
          obtain ⟨j1, j2, j3⟩ := hJ
          dsimp only at j1 j2 j3 ⊢
          have hRs : RD T Gp Ph Hd Th s := hR.five (fun b h1 h5 => j2.1 b (by omega))
          refine h43 _ _ _ ⟨fun c => absurd ((le16 (by omega)).mp c) (by omega), fun _ => sp_isDrawn hRs hW hk ⟨fun c => ?_, fun c => ?_⟩⟩
          · rw [nI_1]
            refine ih (ρ, ch, s) ⟨j1, j2, ?_⟩
            rcases j3 with ⟨q1, q2, q3⟩ | q
            · exact Or.inl ⟨q1, q2, fun g hg hd => by
                by_cases e : g = k
                · rw [e, b2i_0.mp c] at hd; cases hd
                · exact q3 g (by omega) hd⟩
            · exact Or.inr q
          · have hd := b2i_ne c
            have e8 : ∀ g, g < 16 → Dr Gp Hd Th g = true → s 8 g = nI (ρ g) := fun g hg q => by rw [j2.2 g hg, if_pos q]
            have e7 : ∀ k, k < 256 → s 7 k = b2i (lk T Gp Hd Th k) := fun k hk => by rw [j2.1 7 (by decide)]; exact h7 k hk
            have ro : ∀ {post : Int32 → S0 → Prop}, post (nI (Fx (FR T Gp Ph Hd Th) ρ k)) s → Sp_R_rowOf (nI k) s post := fun hp => sp_rowOf hRs hW e7 j1.2 e8 hk hd hp
            have hFR : Fx (FR T Gp Ph Hd Th) ρ k ≤ RW T Gp Ph Hd Th k := by
              have h1 : Fx (FR T Gp Ph Hd Th) ρ k ≤ Fx (FR T Gp Ph Hd Th) (RW T Gp Ph Hd Th) k := Fx_mono (fun a ha q => (j1.1 a ha (hdf a k q)).2)
              have h2 : Fx (FR T Gp Ph Hd Th) (RW T Gp Ph Hd Th) k = RW T Gp Ph Hd Th k := Fx_Rw hr hk hd
              omega
            have hk16 := hR16 k hk hd
            have hρk := j1.1 k hk hd
            refine ro ⟨in166 (by omega), fun c2 => ro ⟨in166 (by omega), fun σ10 e10 => ?_⟩, fun c2 => ?_⟩
            · rw [cl (by omega : k < 2 ^ 31)] at c2 e10
              rw [e8 k hk hd, nIx (by omega) (by omega)] at c2
              rw [nI_1]
              let ρ' : Nat → Nat := fun g => if g = k then Fx (FR T Gp Ph Hd Th) ρ k else ρ g
              have up : ∀ g, g < 16 → Dr Gp Hd Th g = true → ρ g ≤ ρ' g := fun g hg q => by
                show ρ g ≤ if g = k then _ else _
                by_cases e : g = k
                · rw [if_pos e, e]; exact hρk.1
                · rw [if_neg e]; exact Nat.le_refl _
              have hI' : I ρ' := by
                refine ⟨fun g hg q => ?_, fun g hg => ?_⟩
                · have hm : Fx (FR T Gp Ph Hd Th) ρ g ≤ Fx (FR T Gp Ph Hd Th) ρ' g := Fx_mono (fun a ha z => up a ha (hdf a g z))
                  show (if g = k then _ else _) ≤ _ ∧ (if g = k then _ else _) ≤ _
                  by_cases e : g = k
                  · rw [if_pos e]; subst e; exact ⟨hm, hFR⟩
                  · rw [if_neg e]; exact ⟨Nat.le_trans (j1.1 g hg q).1 hm, (j1.1 g hg q).2⟩
                · show (if g = k then _ else _) < 100
                  by_cases e : g = k
                  · rw [if_pos e]; omega
                  · rw [if_neg e]; exact j1.2 g hg
              have hlt : meas (Dr Gp Hd Th) (RW T Gp Ph Hd Th) ρ' < meas (Dr Gp Hd Th) (RW T Gp Ph Hd Th) ρ := by
                refine sumN_lt (j := k) ?_ 16 hk (fun g hg => ?_)
                · show (if _ then RW T Gp Ph Hd Th k - (if k = k then _ else _) else 0) < (if _ then _ else 0)
                  rw [if_pos hd, if_pos hd, if_pos rfl]; omega
                · show (if Dr Gp Hd Th g = true then RW T Gp Ph Hd Th g - ρ' g else 0) ≤ (if Dr Gp Hd Th g = true then RW T Gp Ph Hd Th g - ρ g else 0)
                  by_cases q : Dr Gp Hd Th g = true
                  · rw [if_pos q, if_pos q]; have := up g hg q; omega
                  · rw [if_neg q, if_neg q]; exact Nat.le_refl _
              refine ih (ρ', true, σ10) ⟨hI', ⟨fun b hb => by show σ10 b = _; rw [e10, st_ne hb]; exact j2.1 b hb, fun g hg => ?_⟩, Or.inr ⟨rfl, ?_⟩⟩
              · show σ10 8 g = if _ then nI (if g = k then _ else _) else -1
                rw [e10, st_app]
                by_cases e : g = k
                · subst e; rw [if_pos ⟨rfl, rfl⟩, if_pos hd, if_pos rfl]
                · rw [if_neg (by simp [e]), if_neg e]; exact j2.2 g hg
              · rcases j3 with ⟨q1, q2, q3⟩ | ⟨q1, q2⟩
                · subst q2; exact hlt
                · exact Nat.lt_trans hlt q2
            · rw [cl (by omega : k < 2 ^ 31), e8 k hk hd, nIx (by omega) (by omega)] at c2
              rw [nI_1]
              refine ih (ρ, ch, s) ⟨j1, j2, ?_⟩
              rcases j3 with ⟨q1, q2, q3⟩ | q
              · subst q2
                exact Or.inl ⟨q1, rfl, fun g hg hd' => by
                  by_cases e : g = k
                  · rw [e]; exact c2
                  · exact q3 g (by omega) hd'⟩
              · exact Or.inr q
      exact inner 0 (ρ0, false, s0) (by omega) ⟨hI0, hS0, Or.inl ⟨rfl, rfl, fun g hg => absurd hg (by omega)⟩⟩
  have loop1 : ∀ k s, k ≤ 16 → ((∀ b, b ≠ 8 → s b = τ b) ∧ ∀ g, g < k → s 8 g = if Dr Gp Hd Th g = true then 0 else -1) → G2 (nI k) s := by
    refine upto 16 (fun k s => G2 (nI k) s) _ (fun s hI => ?_) (fun k s hk hI ih => ?_)
    · exact h2 _ _ ⟨fun _ => outer _ (fun _ => 0) s (Nat.lt_succ_self _) ⟨fun g hg q => ⟨Nat.zero_le _, Nat.zero_le _⟩, fun g hg => (by decide : 0 < 100)⟩ ⟨hI.1, hI.2⟩, fun c => absurd ((le16 (by omega)).mpr (by omega)) c⟩
    · obtain ⟨i1, i2⟩ := hI
      have hRs : RD T Gp Ph Hd Th s := hR.five (fun b h1 h5 => i1 b (by omega))
      have put : ∀ v, (v = if Dr Gp Hd Th k = true then 0 else -1) → G26 (nI k) (nI k) v s := fun v hv => by
        refine h26 _ _ _ _ ⟨in166 (by omega), fun σ3 e3 => ?_⟩
        rw [cl (by omega : k < 2 ^ 31)] at e3
        rw [nI_1]
        refine ih σ3 ⟨fun b hb => by rw [e3, st_ne hb]; exact i1 b hb, fun g hg => ?_⟩
        rw [e3, st_app]
        by_cases q : g = k
        · subst q; rw [if_pos ⟨rfl, rfl⟩]; exact hv
        · rw [if_neg (by simp [q])]; exact i2 g (by omega)
      refine h2 _ _ ⟨fun c => absurd ((le16 (by omega)).mp c) (by omega), fun _ => sp_isDrawn hRs hW hk ⟨fun c => put _ (by rw [b2i_0.mp c]; rfl), fun c => put _ (by rw [b2i_ne c]; rfl)⟩⟩
  exact loop1 0 τ (by omega) ⟨fun _ _ => rfl, fun g hg => absurd hg (by omega)⟩
end
