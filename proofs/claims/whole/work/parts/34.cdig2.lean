/-! The class: phase, hide, group. -/
def upP (Ph : Nat → Int32) (i : Nat) (p : Int32) : Nat → Int32 := fun c => if c = i then p else Ph c
def upB (f : Nat → Bool) (i : Nat) (v : Bool) : Nat → Bool := fun c => if c = i then v else f c
def okPh (p : Int32) : Prop := p = -1 ∨ ∃ q, q < 6 ∧ p = nI q
theorem okPh_iff {p : Int32} (h : ¬ p = -1) : (¬ p < 0 ∧ p < 6) ↔ okPh p := by
  constructor
  · rintro ⟨h1, h2⟩
    rcases pk_ix p (n := 6) (by omega) with q | q | ⟨j, hj, e⟩
    · exact absurd q h1
    · exact absurd h2 (by rw [Int32.not_lt]; exact q)
    · exact Or.inr ⟨j, hj, e⟩
  · rintro (q | ⟨j, hj, rfl⟩)
    · exact absurd q h
    · exact ⟨nI_pos (by omega), nI_lt (b := 6) hj (by omega)⟩
section
variable {T : Nat → Nat → Bool} {Gp : Nat → Nat} {Ph : Nat → Int32} {Hd Th : Nat → Bool} {σ : S0}
theorem wf_phase (hW : WF T Gp Ph Hd Th) (i : Nat) {p : Int32} (hp : okPh p) : WF T Gp (upP Ph i p) Hd (upS Th i) := by
  obtain ⟨w1, w2, w3, w4, w5, w6, w7⟩ := hW
  refine ⟨w1, w2, fun a b ha hb q => ?_, fun c hc q => ?_, fun c d hc hd q1 q2 => ?_, fun c hc => ?_, w7⟩
  · simp [upS, (w3 a b ha hb q).1, (w3 a b ha hb q).2]
  · simp [upS, w4 c hc q]
  · simp [upS, w5 c d hc hd q1 q2]
  · unfold upP; split
    · exact hp
    · exact w6 c hc
theorem wf_hide (hW : WF T Gp Ph Hd Th) (i : Nat) (v : Bool) : WF T Gp Ph (upB Hd i v) (upS Th i) := by
  obtain ⟨w1, w2, w3, w4, w5, w6, w7⟩ := hW
  refine ⟨w1, w2, fun a b ha hb q => ?_, fun c hc q => ?_, fun c d hc hd q1 q2 => ?_, w6, w7⟩
  · simp [upS, (w3 a b ha hb q).1, (w3 a b ha hb q).2]
  · unfold upB at q
    by_cases e : c = i
    · simp [upS, e]
    · rw [if_neg e] at q; simp [upS, w4 c hc q]
  · simp [upS, w5 c d hc hd q1 q2]
theorem cl_phase (hC : CD T Gp Ph Hd Th σ) (hW : WF T Gp Ph Hd Th) {a p : Int32} {post : Int32 → S0 → Prop} {px : Nat → S0 → Prop}
    (hbad : (¬ ∃ i, i < 16 ∧ a = nI i) → px 0 σ) (hbad2 : (∃ i, i < 16 ∧ a = nI i) → ¬ okPh p → px 2 σ)
    (hgood : ∀ i, i < 16 → a = nI i → okPh p → ∀ σ', CD T Gp (upP Ph i p) Hd (upS Th i) σ' → WF T Gp (upP Ph i p) Hd (upS Th i) → σ' 0 0 = 0 → post (Ph i) σ') : Sp_M_phase a p σ post px := by
  unfold Sp_M_phase
  intro G19 G29 h19 h29
  refine sp_ctx (fun i hi ea => ?_) hbad
  have hno : ¬ okPh p → G19 σ := fun q => h19 σ (hbad2 ⟨i, hi, ea⟩ q)
  have hgo : okPh p → G29 a p σ := by
    intro hp
    refine h29 _ _ _ (fun σ2 e2 => ?_)
    subst ea
    obtain ⟨c1, c2, c3, c4, c5, c6, c7, c8, c9⟩ := hC.put0 (v := 0)
    rw [← e2] at c1 c2 c3 c4 c5 c6 c7 c8 c9
    unfold Sp_D_tellPhase
    refine ⟨in16 hi, fun v1 ev => ⟨in16 hi, fun σ3 e3 σ4 e4 => ?_⟩⟩
    rw [cl (by omega : i < 2 ^ 31)] at ev e3
    rw [c3 i hi] at ev
    have hW' := wf_phase hW i hp
    have k4 : ∀ b, b ≠ 0 → b ≠ 8 → σ4 b = σ2 b := fun b h0 h8 => by rw [e4, st_ne h0, e3, st_ne h8]
    refine CD.settled (Ph := upP Ph i p) (Th := upS Th i) hW' (fun c hc => by rw [k4 4 (by decide) (by decide)]; exact c1 c hc) (fun a ha => by rw [k4 7 (by decide) (by decide)]; exact c2 a ha) (fun c hc => ?_) ?_ ?_ ?_ (fun σ5 hC5 f5 => ?_)
    · rw [e4, st_ne (by decide), e3, st_app]
      unfold upP
      by_cases q : c = i
      · simp [q]
      · simp [q]; exact c3 c hc
    · rw [e4, st_same, e3, st_ne (by decide)]
      exact (c4.or (IsSet.one hi)).ext (fun t _ => by simp [upS])
    · rw [e4, st_other (by decide), e3, st_ne (by decide)]; exact c5
    · rw [e4, st_other (by decide), e3, st_ne (by decide)]; exact c6
    · rw [ev]
      refine hgood i hi rfl hp σ5 hC5 hW' ?_
      rw [f5 0 (by decide) (by decide) (by decide), e4, st_other (by decide), e3, st_ne (by decide), e2, st_same]
  refine ⟨fun c => hgo (Or.inl c), fun c => ⟨fun c2 => hno (fun q => ((okPh_iff c).mpr q).1 c2), fun c2 => ⟨fun c3 => hgo ((okPh_iff c).mp ⟨c2, c3⟩), fun c3 => hno (fun q => c3 ((okPh_iff c).mpr q).2)⟩⟩⟩
theorem cl_hide (hC : CD T Gp Ph Hd Th σ) (hW : WF T Gp Ph Hd Th) {a : Int32} {on : Bool} {post : Int32 → S0 → Prop} {px : Nat → S0 → Prop}
    (hbad : (¬ ∃ i, i < 16 ∧ a = nI i) → px 0 σ)
    (hgood : ∀ i, i < 16 → a = nI i → (Hd i = on → ∀ σ', CD T Gp Ph Hd Th σ' → σ' 0 0 = 0 → post 0 σ') ∧ (Hd i ≠ on → ∀ σ', CD T Gp Ph (upB Hd i on) (upS Th i) σ' → WF T Gp Ph (upB Hd i on) (upS Th i) → σ' 0 0 = 0 → post 1 σ')) : Sp_M_hide a (if on then 1 else 0) σ post px := by
  unfold Sp_M_hide
  refine sp_ctx (fun i hi ea σ2 e2 => ?_) hbad
  obtain ⟨g1, g2⟩ := hgood i hi ea
  subst ea
  have hC2 : CD T Gp Ph Hd Th σ2 := by rw [e2]; exact hC.put0
  have z2 : σ2 0 0 = 0 := by rw [e2, st_same]
  obtain ⟨c1, c2, c3, c4, c5, c6, c7, c8, c9⟩ := id hC2
  unfold Sp_D_tellHidden
  have change : Hd i ≠ on → ∀ σ3, σ3 = st σ2 0 2 ((σ2 0 2) ^^^ (1 <<< (nI i &&& 31))) → ∀ σ4, σ4 = st σ3 0 1 ((σ3 0 1) ||| (1 <<< (nI i &&& 31))) → bo 1 ∧ post 1 σ4 := by
    intro hne σ3 e3 σ4 e4
    have k4 : ∀ b, b ≠ 0 → σ4 b = σ2 b := fun b h0 => by rw [e4, st_ne h0, e3, st_ne h0]
    refine ⟨Or.inr rfl, g2 hne σ4 ⟨?_, ?_, ?_, ?_, ?_, ?_, ?_, ?_, ?_⟩ (wf_hide hW i on) ?_⟩
    · intro c hc; rw [k4 4 (by decide)]; exact c1 c hc
    · intro c hc; rw [k4 7 (by decide)]; exact c2 c hc
    · intro c hc; rw [k4 8 (by decide)]; exact c3 c hc
    · rw [e4, st_same, e3, st_other (by decide)]
      exact (c4.or (IsSet.one hi)).ext (fun t _ => by simp [upS])
    · rw [e4, st_other (by decide), e3, st_same]
      refine (c5.xor (IsSet.one hi)).ext (fun t _ => ?_)
      unfold upB
      by_cases q : t = i
      · subst q; simp; cases h1 : Hd t <;> cases on <;> simp_all
      · simp [q]
    · rw [e4, st_other (by decide), e3, st_other (by decide)]; exact c6
    · intro c hc; rw [k4 5 (by decide)]; exact c7 c hc
    · intro c hc; rw [k4 6 (by decide)]; exact c8 c hc
    · intro c hc; rw [k4 9 (by decide)]; exact c9 c hc
    · rw [e4, st_other (by decide), e3, st_other (by decide)]; exact z2
  refine sp_hasS c5 hi (fun hh => ?_) (fun hh => ?_)
  · cases on
    · exact ⟨fun _ => change (by rw [hh]; decide), fun c => absurd c (by decide)⟩
    · exact ⟨fun c => absurd rfl c, fun _ => ⟨Or.inl rfl, g1 hh σ2 hC2 z2⟩⟩
  · cases on
    · exact ⟨fun c => absurd rfl c, fun _ => ⟨Or.inl rfl, g1 hh σ2 hC2 z2⟩⟩
    · exact ⟨fun _ => change (by rw [hh]; decide), fun c => absurd c (by decide)⟩
theorem cl_group (hC : CD T Gp Ph Hd Th σ) {a : Int32} {post : Int32 → S0 → Prop} {px : Nat → S0 → Prop} (hbad : (¬ ∃ i, i < 16 ∧ a = nI i) → px 0 σ) (hgood : ∀ i, i < 16 → a = nI i → post (nI (Gp i)) σ) : Sp_M_group a σ post px := by
  unfold Sp_M_group
  refine sp_ctx (fun i hi ea => ?_) hbad
  subst ea
  refine ⟨in16 hi, ?_⟩
  rw [cl (by omega : i < 2 ^ 31), hC.1 i hi]
  exact hgood i hi rfl
end
