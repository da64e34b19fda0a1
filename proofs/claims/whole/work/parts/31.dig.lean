/-! The class's dig: sets of leaders, closure, what settle() finds. -/
theorem sp_leadersOf {x : Int32} {f : Nat → Bool} {Gp : Nat → Nat} {σ : S0} {post : Int32 → S0 → Prop} (hx : IsSet x f) (hG : ∀ c, c < 16 → σ 4 c = nI (Gp c)) (hG16 : ∀ c, c < 16 → Gp c < 16)
    (h : ∀ r, IsSet r (fun i => anyB 16 (fun c => f c && decide (Gp c = i))) → post r σ) : Sp_D_leadersOf x σ post := by
  unfold Sp_D_leadersOf
  intro G4 hG4
  refine upto 16 (fun k acc => G4 x acc (nI k) σ) (fun k acc => IsSet acc (fun i => anyB k (fun c => f c && decide (Gp c = i)))) (fun acc hI => ?_) (fun k acc hk hI ih => ?_) 0 0 (by omega) IsSet.zero
  · exact hG4 _ _ _ _ ⟨fun _ => h acc hI, fun c => absurd ((le16 (by omega)).mpr (by omega)) c⟩
  · refine hG4 _ _ _ _ ⟨fun c => absurd ((le16 (by omega)).mp c) (by omega), fun _ => sp_hasS hx hk (fun hf => ?_) (fun hf => ?_)⟩
    · refine ⟨fun c => absurd c (by decide), fun _ => ⟨in16 hk, fun v hv => ?_⟩⟩
      rw [nI_1]
      refine ih v ?_
      rw [hv, cl (by omega), hG k hk]
      refine (hI.or (IsSet.one (hG16 k hk))).ext (fun i _ => ?_)
      rw [anyB, hf, Bool.true_and]
      congr 1
      exact decide_eq_decide.mpr ⟨fun q => q.symm, fun q => q.symm⟩
    · refine ⟨fun _ => ?_, fun c => absurd rfl c⟩
      rw [nI_1]
      exact ih acc (hI.ext (fun i _ => by rw [anyB, hf, Bool.false_and, Bool.or_false]))
def wst (m : Nat → Nat → Bool) (v : Nat) : Nat → Nat → Bool := fun i j => m i j || (m i v && m v j)
def cloV (V : Nat → Bool) : Nat → (Nat → Nat → Bool) → Nat → Nat → Bool
  | 0, m => m
  | n + 1, m => if V n then wst (cloV V n m) n else cloV V n m
theorem wst_row {m : Nat → Nat → Bool} {v j : Nat} : wst m v v j = m v j := by
  unfold wst; cases m v j <;> cases m v v <;> rfl
theorem wst_col {m : Nat → Nat → Bool} {v i : Nat} : wst m v i v = m i v := by
  unfold wst; cases m i v <;> cases m v v <;> rfl
set_option maxHeartbeats 1000000 in
theorem sp_goOn_9 {x : Int32} {V : Nat → Bool} {m : Nat → Nat → Bool} {σ : S0} {post : S0 → Prop} (hx : IsSet x V) (hm : ∀ i, i < 16 → IsSet (σ 9 i) (m i))
    (h : ∀ σ', (∀ b, b ≠ 9 → σ' b = σ b) → (∀ i, i < 16 → IsSet (σ' 9 i) (cloV V 16 m i)) → post σ') : Sp_M_goOn_9 x σ post := by
  unfold Sp_M_goOn_9
  intro G2 G10 h2 h10
  refine upto 16 (fun k σ' => G2 x (nI k) σ') (fun k σ' => (∀ b, b ≠ 9 → σ' b = σ b) ∧ ∀ i, i < 16 → IsSet (σ' 9 i) (cloV V k m i)) (fun σ' hI => ?_) (fun k σ' hk hI ih => ?_) 0 σ (by omega) ⟨fun _ _ => rfl, hm⟩
  · exact h2 _ _ _ ⟨fun _ => h σ' hI.1 hI.2, fun c => absurd ((le16 (by omega)).mpr (by omega)) c⟩
  · refine h2 _ _ _ ⟨fun c => absurd ((le16 (by omega)).mp c) (by omega), fun _ => ?_⟩
    refine upto 16 (fun j s => G10 x (nI k) (nI j) s) (fun j s => (∀ b, b ≠ 9 → s b = σ b) ∧ ∀ i, i < 16 → IsSet (s 9 i) (if i < j then cloV V (k + 1) m i else cloV V k m i)) (fun s hJ => ?_) (fun j s hj hJ ih2 => ?_) 0 σ' (by omega) ⟨hI.1, fun i hi => by rw [if_neg (by omega)]; exact hI.2 i hi⟩
    · refine h10 _ _ _ _ ⟨fun _ => ?_, fun c => absurd ((le16 (by omega)).mpr (by omega)) c⟩
      rw [nI_1]
      exact ih s ⟨hJ.1, fun i hi => by have := hJ.2 i hi; rw [if_pos hi] at this; exact this⟩
    · have hsame : (cloV V (k + 1) m j = cloV V k m j) → G10 x (nI k) (nI j + 1) s := fun e => by
        rw [nI_1]
        refine ih2 s ⟨hJ.1, fun i hi => ?_⟩
        have := hJ.2 i hi
        by_cases q : i < j
        · rw [if_pos q] at this; rw [if_pos (by omega)]; exact this
        · rw [if_neg q] at this
          by_cases q2 : i = j
          · subst q2; rw [if_pos (by omega), e]; exact this
          · rw [if_neg (by omega)]; exact this
      refine h10 _ _ _ _ ⟨fun c => absurd ((le16 (by omega)).mp c) (by omega), fun _ => sp_hasS hx hk (fun hv => ?_) (fun hv => ?_)⟩
      · refine ⟨fun c => absurd c (by decide), fun _ => ⟨in16 hj, ?_⟩⟩
        rw [cl (by omega : j < 2 ^ 31)]
        have hjset := hJ.2 j hj
        rw [if_neg (by omega)] at hjset
        refine sp_hasS hjset hk (fun hf => ?_) (fun hf => ?_)
        · refine ⟨fun c => absurd c (by decide), fun _ => ⟨in16 hj, in16 hk, in16 hj, fun σ5 e5 => ?_⟩⟩
          rw [cl (by omega : k < 2 ^ 31)] at e5
          rw [nI_1]
          refine ih2 σ5 ⟨fun b hb => by rw [e5, st_ne hb]; exact hJ.1 b hb, fun i hi => ?_⟩
          by_cases q2 : i = j
          · subst q2
            rw [e5, st_same, if_pos (by omega)]
            have hks := hJ.2 k hk
            refine (hjset.or hks).ext (fun t _ => ?_)
            have : (if k < i then cloV V (k + 1) m k else cloV V k m k) t = cloV V k m k t := by
              split
              · rw [cloV, if_pos hv]; exact wst_row
              · rfl
            rw [this, cloV, if_pos hv]
            unfold wst
            rw [hf, Bool.true_and]
          · rw [e5, st_other q2]
            have := hJ.2 i hi
            by_cases q : i < j
            · rw [if_pos q] at this; rw [if_pos (by omega)]; exact this
            · rw [if_neg q] at this; rw [if_neg (by omega)]; exact this
        · refine ⟨fun _ => hsame ?_, fun c => absurd rfl c⟩
          rw [cloV, if_pos hv]
          funext t
          unfold wst
          rw [hf, Bool.false_and, Bool.or_false]
      · exact ⟨fun _ => hsame (by rw [cloV, hv]; rfl), fun c => absurd rfl c⟩

set_option maxHeartbeats 1000000 in
theorem sp_goOn_13 {x : Int32} {V : Nat → Bool} {m : Nat → Nat → Bool} {σ : S0} {post : S0 → Prop} (hx : IsSet x V) (hm : ∀ i, i < 16 → IsSet (σ 13 i) (m i))
    (h : ∀ σ', (∀ b, b ≠ 13 → σ' b = σ b) → (∀ i, i < 16 → IsSet (σ' 13 i) (cloV V 16 m i)) → post σ') : Sp_M_goOn_13 x σ post := by
  unfold Sp_M_goOn_13
  intro G2 G10 h2 h10
  refine upto 16 (fun k σ' => G2 x (nI k) σ') (fun k σ' => (∀ b, b ≠ 13 → σ' b = σ b) ∧ ∀ i, i < 16 → IsSet (σ' 13 i) (cloV V k m i)) (fun σ' hI => ?_) (fun k σ' hk hI ih => ?_) 0 σ (by omega) ⟨fun _ _ => rfl, hm⟩
  · exact h2 _ _ _ ⟨fun _ => h σ' hI.1 hI.2, fun c => absurd ((le16 (by omega)).mpr (by omega)) c⟩
  · refine h2 _ _ _ ⟨fun c => absurd ((le16 (by omega)).mp c) (by omega), fun _ => ?_⟩
    refine upto 16 (fun j s => G10 x (nI k) (nI j) s) (fun j s => (∀ b, b ≠ 13 → s b = σ b) ∧ ∀ i, i < 16 → IsSet (s 13 i) (if i < j then cloV V (k + 1) m i else cloV V k m i)) (fun s hJ => ?_) (fun j s hj hJ ih2 => ?_) 0 σ' (by omega) ⟨hI.1, fun i hi => by rw [if_neg (by omega)]; exact hI.2 i hi⟩
    · refine h10 _ _ _ _ ⟨fun _ => ?_, fun c => absurd ((le16 (by omega)).mpr (by omega)) c⟩
      rw [nI_1]
      exact ih s ⟨hJ.1, fun i hi => by have := hJ.2 i hi; rw [if_pos hi] at this; exact this⟩
    · have hsame : (cloV V (k + 1) m j = cloV V k m j) → G10 x (nI k) (nI j + 1) s := fun e => by
        rw [nI_1]
        refine ih2 s ⟨hJ.1, fun i hi => ?_⟩
        have := hJ.2 i hi
        by_cases q : i < j
        · rw [if_pos q] at this; rw [if_pos (by omega)]; exact this
        · rw [if_neg q] at this
          by_cases q2 : i = j
          · subst q2; rw [if_pos (by omega), e]; exact this
          · rw [if_neg (by omega)]; exact this
      refine h10 _ _ _ _ ⟨fun c => absurd ((le16 (by omega)).mp c) (by omega), fun _ => sp_hasS hx hk (fun hv => ?_) (fun hv => ?_)⟩
      · refine ⟨fun c => absurd c (by decide), fun _ => ⟨in16 hj, ?_⟩⟩
        rw [cl (by omega : j < 2 ^ 31)]
        have hjset := hJ.2 j hj
        rw [if_neg (by omega)] at hjset
        refine sp_hasS hjset hk (fun hf => ?_) (fun hf => ?_)
        · refine ⟨fun c => absurd c (by decide), fun _ => ⟨in16 hj, in16 hk, in16 hj, fun σ5 e5 => ?_⟩⟩
          rw [cl (by omega : k < 2 ^ 31)] at e5
          rw [nI_1]
          refine ih2 σ5 ⟨fun b hb => by rw [e5, st_ne hb]; exact hJ.1 b hb, fun i hi => ?_⟩
          by_cases q2 : i = j
          · subst q2
            rw [e5, st_same, if_pos (by omega)]
            have hks := hJ.2 k hk
            refine (hjset.or hks).ext (fun t _ => ?_)
            have : (if k < i then cloV V (k + 1) m k else cloV V k m k) t = cloV V k m k t := by
              split
              · rw [cloV, if_pos hv]; exact wst_row
              · rfl
            rw [this, cloV, if_pos hv]
            unfold wst
            rw [hf, Bool.true_and]
          · rw [e5, st_other q2]
            have := hJ.2 i hi
            by_cases q : i < j
            · rw [if_pos q] at this; rw [if_pos (by omega)]; exact this
            · rw [if_neg q] at this; rw [if_neg (by omega)]; exact this
        · refine ⟨fun _ => hsame ?_, fun c => absurd rfl c⟩
          rw [cloV, if_pos hv]
          funext t
          unfold wst
          rw [hf, Bool.false_and, Bool.or_false]
      · exact ⟨fun _ => hsame (by rw [cloV, hv]; rfl), fun c => absurd rfl c⟩

theorem sp_lower {g : Nat} {p : Int32} {σ : S0} {post : S0 → Prop} (hg : g < 16) (h : post (if ¬ p = -1 ∧ (σ 5 g = -1 ∨ ¬ σ 5 g ≤ p) then st σ 5 g p else σ)) : Sp_D_lowerGroupPhase (nI g) p σ post := by
  unfold Sp_D_lowerGroupPhase
  intro G25 hG
  have hgo : ¬ p = -1 ∧ (σ 5 g = -1 ∨ ¬ σ 5 g ≤ p) → G25 (nI g) p σ := fun c => by
    rw [if_pos c] at h
    refine hG _ _ _ ⟨in16 hg, fun σ1 e => ?_⟩
    rw [e, cl (by omega)]; exact h
  have hno : ¬ (¬ p = -1 ∧ (σ 5 g = -1 ∨ ¬ σ 5 g ≤ p)) → post σ := fun c => by
    rw [if_neg c] at h; exact h
  refine ⟨fun c => hno (fun q => q.1 c), fun c => ⟨in16 hg, ?_⟩⟩
  rw [cl (by omega)]
  exact ⟨fun c2 => hgo ⟨c, Or.inl c2⟩, fun c2 => ⟨in16 hg, fun c3 => hno (fun q => q.2.elim c2 (fun z => z c3)), fun c3 => hgo ⟨c, Or.inr c3⟩⟩⟩
/-- the least phase of a group's first n contexts -/
def gpf (Gp : Nat → Nat) (Ph : Nat → Int32) (g : Nat) : Nat → Int32
  | 0 => -1
  | c + 1 => if Gp c = g ∧ (¬ Ph c = -1 ∧ (gpf Gp Ph g c = -1 ∨ ¬ gpf Gp Ph g c ≤ Ph c)) then Ph c else gpf Gp Ph g c
def dbn (T : Nat → Nat → Bool) (Gp : Nat → Nat) (n : Nat) : Nat → Nat → Bool := fun g h => anyB n (fun c => decide (Gp c = g) && anyB 16 (fun d => T c d && decide (Gp d = h)))
abbrev DB (T : Nat → Nat → Bool) (Gp : Nat → Nat) : Nat → Nat → Bool := dbn T Gp 16
abbrev GP (Gp : Nat → Nat) (Ph : Nat → Int32) (g : Nat) : Int32 := gpf Gp Ph g 16
def lds (Gp : Nat → Nat) (f : Nat → Bool) : Nat → Bool := fun i => anyB 16 (fun c => f c && decide (Gp c = i))
set_option maxHeartbeats 1000000 in
theorem sp_settle {T : Nat → Nat → Bool} {Gp : Nat → Nat} {Ph : Nat → Int32} {Th : Nat → Bool} {σ : S0} {post : S0 → Prop} (hG : ∀ c, c < 16 → σ 4 c = nI (Gp c)) (hG16 : ∀ c, c < 16 → Gp c < 16) (hT : ∀ a, a < 16 → IsSet (σ 7 a) (T a)) (hPh : ∀ c, c < 16 → σ 8 c = Ph c) (hTh : IsSet (σ 0 1) Th)
    (h : ∀ σ', (∀ b, b ≠ 5 → b ≠ 6 → b ≠ 9 → σ' b = σ b) → (∀ g, g < 16 → σ' 5 g = GP Gp Ph g) → (∀ g, g < 16 → IsSet (σ' 6 g) (DB T Gp g)) → (∀ g, g < 16 → IsSet (σ' 9 g) (cloV (lds Gp Th) 16 (DB T Gp) g)) → post σ') : Sp_D_settle σ post := by
  unfold Sp_D_settle
  intro G2 G30 h2 h30
  have loop2 : ∀ k σ', k ≤ 16 → ((∀ b, b ≠ 5 → b ≠ 6 → b ≠ 9 → σ' b = σ b) ∧ (∀ g, g < 16 → σ' 5 g = gpf Gp Ph g k) ∧ (∀ g, g < 16 → IsSet (σ' 6 g) (dbn T Gp k g))) → G30 (nI k) σ' := by
    refine upto 16 (fun k σ' => G30 (nI k) σ') _ (fun σ' hI => ?_) (fun k σ' hk hI ih => ?_)
    · obtain ⟨f1, f2, f3⟩ := hI
      refine h30 _ _ ⟨fun _ => ⟨⟨by decide, by decide, by decide⟩, fun σ3 e3 => ?_⟩, fun c => absurd ((le16 (by omega)).mpr (by omega)) c⟩
      have k3 : ∀ b, b ≠ 9 → σ3 b = σ' b := fun b hb => by rw [e3]; funext j; rw [cp_app]; simp [hb]
      have k9 : ∀ g, g < 16 → σ3 9 g = σ' 6 g := fun g hg => by rw [e3, cp_app, if_pos ⟨rfl, hg⟩]
      refine sp_leadersOf (f := Th) (Gp := Gp) (by rw [k3 0 (by decide), f1 0 (by decide) (by decide) (by decide)]; exact hTh) (fun c hc => by rw [k3 4 (by decide), f1 4 (by decide) (by decide) (by decide)]; exact hG c hc) hG16 (fun r hr => ?_)
      refine sp_goOn_9 (V := lds Gp Th) (m := DB T Gp) hr (fun i hi => by rw [k9 i hi]; exact f3 i hi) (fun σ6 g1 g2 => ?_)
      refine h σ6 (fun b b5 b6 b9 => by rw [g1 b b9, k3 b b9, f1 b b5 b6 b9]) (fun g hg => by rw [g1 5 (by decide), k3 5 (by decide)]; exact f2 g hg) (fun g hg => by rw [g1 6 (by decide), k3 6 (by decide)]; exact f3 g hg) g2
    · obtain ⟨f1, f2, f3⟩ := hI
      have e4 : σ' 4 k = nI (Gp k) := by rw [f1 4 (by decide) (by decide) (by decide)]; exact hG k hk
      refine h30 _ _ ⟨fun c => absurd ((le16 (by omega)).mp c) (by omega), fun _ => ⟨in16 hk, ?_⟩⟩
      rw [cl (by omega : k < 2 ^ 31), e4]
      have hgk := hG16 k hk
      refine ⟨in16 hgk, in16 hk, ?_⟩
      refine sp_leadersOf (f := T k) (Gp := Gp) (by rw [f1 7 (by decide) (by decide) (by decide)]; exact hT k hk) (fun c hc => by rw [f1 4 (by decide) (by decide) (by decide)]; exact hG c hc) hG16 (fun r hr => ?_)
      refine ⟨in16 hgk, fun σ9 e9 => ⟨in16 hk, in16 hk, ?_⟩⟩
      rw [cl (by omega : Gp k < 2 ^ 31)] at e9
      have q4 : ∀ b, b ≠ 6 → σ9 b = σ' b := fun b hb => by rw [e9]; exact st_ne hb
      rw [q4 4 (by decide), q4 8 (by decide), e4, f1 8 (by decide) (by decide) (by decide), hPh k hk]
      refine sp_lower hgk ?_
      rw [nI_1]
      refine ih _ ⟨fun b b5 b6 b9 => ?_, fun g hg => ?_, fun g hg => ?_⟩
      · rw [← f1 b b5 b6 b9, ← q4 b b6]
        split
        · exact st_ne b5
        · rfl
      · rw [q4 5 (by decide), gpf, ← f2 g hg]
        by_cases hgg : Gp k = g
        · subst hgg
          simp only [true_and]
          split
          · exact st_same _ _ _ _
          · rw [q4 5 (by decide)]
        · have hr9 : (if Gp k = g ∧ (¬ Ph k = -1 ∧ (σ' 5 g = -1 ∨ ¬ σ' 5 g ≤ Ph k)) then Ph k else σ' 5 g) = σ' 5 g := if_neg (fun q => hgg q.1)
          rw [hr9]
          split
          · rw [st_other (fun q => hgg q.symm), q4 5 (by decide)]
          · rw [q4 5 (by decide)]
      · have h6 : ∀ s9 : S0, (s9 = st σ9 5 (Gp k) (Ph k) ∨ s9 = σ9) → s9 6 = σ9 6 := fun s9 q => q.elim (fun q => by rw [q]; exact st_ne (by decide)) (fun q => by rw [q])
        have h6' : (if ¬ Ph k = -1 ∧ (σ9 5 (Gp k) = -1 ∨ ¬ σ9 5 (Gp k) ≤ Ph k) then st σ9 5 (Gp k) (Ph k) else σ9) 6 = σ9 6 := h6 _ (by split <;> simp)
        rw [h6', e9]
        by_cases hgg : g = Gp k
        · subst hgg
          rw [st_same]
          refine ((f3 _ hg).or hr).ext (fun i _ => ?_)
          simp [dbn, anyB]
        · rw [st_other hgg]
          refine (f3 g hg).ext (fun i _ => ?_)
          have : ¬ Gp k = g := fun q => hgg q.symm
          simp [dbn, anyB, this]
  have loop1 : ∀ k σ', k ≤ 16 → ((∀ b, b ≠ 5 → b ≠ 6 → b ≠ 9 → σ' b = σ b) ∧ (∀ g, g < k → σ' 5 g = -1) ∧ (∀ g, g < k → σ' 6 g = 0)) → G2 (nI k) σ' := by
    refine upto 16 (fun k σ' => G2 (nI k) σ') _ (fun σ' hI => ?_) (fun k σ' hk hI ih => ?_)
    · obtain ⟨f1, f2, f3⟩ := hI
      exact h2 _ _ ⟨fun _ => loop2 0 σ' (by omega) ⟨f1, fun g hg => f2 g hg, fun g hg => by rw [f3 g hg]; exact IsSet.zero.ext (fun i _ => by simp [dbn, anyB])⟩, fun c => absurd ((le16 (by omega)).mpr (by omega)) c⟩
    · obtain ⟨f1, f2, f3⟩ := hI
      refine h2 _ _ ⟨fun c => absurd ((le16 (by omega)).mp c) (by omega), fun _ => ⟨in16 hk, fun σ1 e1 => ⟨in16 hk, fun σ2 e2 => ?_⟩⟩⟩
      rw [cl (by omega : k < 2 ^ 31)] at e1 e2
      rw [nI_1]
      refine ih σ2 ⟨fun b b5 b6 b9 => by rw [e2, st_ne b5, e1, st_ne b6]; exact f1 b b5 b6 b9, fun g hg => ?_, fun g hg => ?_⟩
      · rw [e2, st_app]
        by_cases q : g = k
        · simp [q]
        · rw [if_neg (by simp [q]), e1, st_ne (by decide)]; exact f2 g (by omega)
      · rw [e2, st_ne (by decide), e1, st_app]
        by_cases q : g = k
        · simp [q]
        · rw [if_neg (by simp [q])]; exact f3 g (by omega)
  exact loop1 0 σ (by omega) ⟨fun _ _ _ _ => rfl, fun g hg => absurd hg (by omega), fun g hg => absurd hg (by omega)⟩
