/-! One call of the script, where it only asks or changes what was told. Sh is what holds of a sheet. -/
abbrev ShT : Type := (Nat → Nat → Bool) → (Nat → Nat) → (Nat → Int32) → (Nat → Bool) → (Nat → Bool) → S0 → S0 → Prop
def InvP (Sh : ShT) (σ τ : S0) : Prop := ∃ T Gp Ph Hd Th, WF T Gp Ph Hd Th ∧ CD T Gp Ph Hd Th σ ∧ RD T Gp Ph Hd Th τ ∧ ((σ 0 0 = 0 ∧ τ 0 1 = 0) ∨ (σ 0 0 = 1 ∧ τ 0 1 = 1 ∧ Sh T Gp Ph Hd Th σ τ))
def ShF (Sh : ShT) : Prop := ∀ T Gp Ph Hd Th σ τ τ', Sh T Gp Ph Hd Th σ τ → RF τ τ' → Sh T Gp Ph Hd Th σ τ'
abbrev K0 (Sh : ShT) (σ1 τ2 : S0) (_ : Nat → Int64) : Prop := InvP Sh σ1 τ2
section
variable {Sh : ShT} (hF : ShF Sh) {σ τ : S0} {g : Nat → Int64}
theorem InvP.frame {τ' : S0} (hF : ShF Sh) (h : InvP Sh σ τ) (f : RF τ τ') : InvP Sh σ τ' := by
  obtain ⟨T, Gp, Ph, Hd, Th, hW, hC, hR, hS⟩ := h
  refine ⟨T, Gp, Ph, Hd, Th, hW, hC, hR.frame f, ?_⟩
  rcases hS with ⟨s1, s2⟩ | ⟨s1, s2, s3⟩
  · exact Or.inl ⟨s1, by rw [f.2 1 (by decide)]; exact s2⟩
  · exact Or.inr ⟨s1, by rw [f.2 1 (by decide)]; exact s2, hF _ _ _ _ _ _ _ _ s3 f⟩
/-- both sides answer r, the class having gone to σ1, the reference to τ1 -/
theorem both {σ1 τ1 : S0} {r : Int32} {K : S0 → S0 → (Nat → Int64) → Prop} {g1 : Nat → Int64} (hg : g1 0 = r.toInt64) (z : τ1 0 0 = 0) (hK : K σ1 τ1 g1) : Sp_R_thrown τ1 (fun th τ2 => th = 0 ∧ ((0 : Int32) = 0 → g1 0 = r.toInt64) ∧ K σ1 τ2 g1) := ⟨z, fun _ => hg, hK⟩
theorem threw {σ1 τ1 : S0} {k r : Int32} {K : S0 → S0 → (Nat → Int64) → Prop} {x : Int64} {g1 : Nat → Int64} (hk : ¬ k = 0) (z : τ1 0 0 = k) (hK : K σ1 τ1 g1) : Sp_R_thrown τ1 (fun th τ2 => th = k ∧ (k = 0 → g1 0 = x) ∧ K σ1 τ2 g1) := ⟨z, fun c => absurd c hk, hK⟩
theorem g_0 {x : Int64} : vp_updL g 0 x 0 = x := pk_uLs
theorem step_above (h : InvP Sh σ τ) (hF : ShF Sh) (a b : Int32) : Sp_L_above a b σ g (fun k σ1 g1 => Sp_R_above a b τ (fun bb τ1 => Sp_R_thrown τ1 (fun th τ2 => th = k ∧ (k = 0 → g1 0 = bb.toInt64) ∧ K0 Sh σ1 τ2 g1))) := by
  obtain ⟨T, Gp, Ph, Hd, Th, hW, hC, hR, hS⟩ := id h
  unfold Sp_L_above
  refine cl_above hC hW (fun q => ⟨rfl, rf_above hR hW (fun _ τ' f z => threw (r := 0) (by decide) z (h.frame hF f)) (fun i j hi hj ea eb => ?_)⟩) (fun i j hi hj ea eb => ?_)
  · exact absurd q (by rintro (q | q); exact q ⟨i, hi, ea⟩; exact q ⟨j, hj, eb⟩)
  · have ctx : ∀ {P : Prop}, ((¬ ∃ i, i < 16 ∧ a = nI i) ∨ (¬ ∃ j, j < 16 ∧ b = nI j)) → P := fun q => absurd q (by rintro (q | q); exact q ⟨i, hi, ea⟩; exact q ⟨j, hj, eb⟩)
    have inj : ∀ i' j', i' < 16 → j' < 16 → a = nI i' → b = nI j' → i' = i ∧ j' = j := fun i' j' h1 h2 e1 e2 => ⟨(nIx (by omega) (by omega)).mp (by rw [← e1, ea]), (nIx (by omega) (by omega)).mp (by rw [← e2, eb])⟩
    refine ⟨fun ht => rf_above hR hW (fun q => ctx q) (fun i' j' h1 h2 e1 e2 => ?_), fun ht => ⟨fun hc => rf_above hR hW (fun q => ctx q) (fun i' j' h1 h2 e1 e2 => ?_), fun hne ho σ' hC' hW' z' => rf_above hR hW (fun q => ctx q) (fun i' j' h1 h2 e1 e2 => ?_)⟩⟩
    · obtain ⟨rfl, rfl⟩ := inj i' j' h1 h2 e1 e2
      exact ⟨fun _ τ' f z => both g_0 z (h.frame hF f), fun q => by rw [ht] at q; cases q⟩
    · obtain ⟨rfl, rfl⟩ := inj i' j' h1 h2 e1 e2
      refine ⟨fun q => (by rw [ht] at q; cases q), fun _ => ⟨fun _ τ' f z => both g_0 z (h.frame hF f), fun q1 q2 => ?_⟩⟩
      rcases hc with hc | hc
      · exact absurd hc q1
      · rw [q2] at hc; cases hc
    · obtain ⟨rfl, rfl⟩ := inj i' j' h1 h2 e1 e2
      refine ⟨fun q => (by rw [ht] at q; cases q), fun _ => ⟨fun hc => ?_, fun q1 q2 τ' hR' y z => both g_0 z ⟨_, _, _, _, _, hW', hC', hR', Or.inl ⟨z', y⟩⟩⟩⟩
      rcases hc with hc | hc
      · exact absurd hc hne
      · rw [ho] at hc; cases hc
theorem step_same (h : InvP Sh σ τ) (hF : ShF Sh) (a b : Int32) : Sp_L_same a b σ g (fun k σ1 g1 => Sp_R_same a b τ (fun bb τ1 => Sp_R_thrown τ1 (fun th τ2 => th = k ∧ (k = 0 → g1 0 = bb.toInt64) ∧ K0 Sh σ1 τ2 g1))) := by
  obtain ⟨T, Gp, Ph, Hd, Th, hW, hC, hR, hS⟩ := id h
  unfold Sp_L_same
  refine cl_same hC hW (fun q => ⟨rfl, rf_same hR hW (fun _ τ' f z => threw (r := 0) (by decide) z (h.frame hF f)) (fun i j hi hj ea eb => ?_)⟩) (fun i j hi hj ea eb => ?_)
  · exact absurd q (by rintro (q | q); exact q ⟨i, hi, ea⟩; exact q ⟨j, hj, eb⟩)
  · have ctx : ∀ {P : Prop}, ((¬ ∃ i, i < 16 ∧ a = nI i) ∨ (¬ ∃ j, j < 16 ∧ b = nI j)) → P := fun q => absurd q (by rintro (q | q); exact q ⟨i, hi, ea⟩; exact q ⟨j, hj, eb⟩)
    have inj : ∀ i' j', i' < 16 → j' < 16 → a = nI i' → b = nI j' → i' = i ∧ j' = j := fun i' j' h1 h2 e1 e2 => ⟨(nIx (by omega) (by omega)).mp (by rw [← e1, ea]), (nIx (by omega) (by omega)).mp (by rw [← e2, eb])⟩
    refine ⟨fun he => rf_same hR hW (fun q => ctx q) (fun i' j' h1 h2 e1 e2 => ?_), fun hne => ⟨fun hc => rf_same hR hW (fun q => ctx q) (fun i' j' h1 h2 e1 e2 => ?_), fun ho ho2 σ' hC' hW' z' => rf_same hR hW (fun q => ctx q) (fun i' j' h1 h2 e1 e2 => ?_)⟩⟩
    · obtain ⟨rfl, rfl⟩ := inj i' j' h1 h2 e1 e2
      exact ⟨fun _ τ' f z => both g_0 z (h.frame hF f), fun q => absurd he q⟩
    · obtain ⟨rfl, rfl⟩ := inj i' j' h1 h2 e1 e2
      refine ⟨fun q => absurd q hne, fun _ => ⟨fun _ τ' f z => both g_0 z (h.frame hF f), fun q1 q2 => ?_⟩⟩
      rcases hc with hc | hc
      · rw [q1] at hc; cases hc
      · rw [q2] at hc; cases hc
    · obtain ⟨rfl, rfl⟩ := inj i' j' h1 h2 e1 e2
      refine ⟨fun q => absurd q hne, fun _ => ⟨fun hc => ?_, fun q1 q2 τ' hR' y z => both g_0 z ⟨_, _, _, _, _, hW', hC', hR', Or.inl ⟨z', y⟩⟩⟩⟩
      rcases hc with hc | hc
      · rw [ho] at hc; cases hc
      · rw [ho2] at hc; cases hc
theorem step_phase (h : InvP Sh σ τ) (hF : ShF Sh) (a b : Int32) : Sp_L_phase a b σ g (fun k σ1 g1 => Sp_R_phase a b τ (fun bb τ1 => Sp_R_thrown τ1 (fun th τ2 => th = k ∧ (k = 0 → g1 0 = bb.toInt64) ∧ K0 Sh σ1 τ2 g1))) := by
  obtain ⟨T, Gp, Ph, Hd, Th, hW, hC, hR, hS⟩ := id h
  unfold Sp_L_phase
  refine cl_phase hC hW (fun q => Or.inl ⟨rfl, rf_phase hR (fun _ τ' f z => threw (r := 0) (by decide) z (h.frame hF f)) (fun q2 => absurd q2 q) (fun i hi ea => absurd ⟨i, hi, ea⟩ q)⟩) (fun q hp => Or.inr ⟨rfl, rf_phase hR (fun q2 => absurd q q2) (fun _ _ τ' f z => threw (r := 0) (by decide) z (h.frame hF f)) (fun i hi ea q => absurd q hp)⟩) (fun i hi ea hp σ' hC' hW' z' => rf_phase hR (fun q => absurd ⟨i, hi, ea⟩ q) (fun _ q => absurd hp q) (fun i' hi' ea' _ τ' hR' y z => ?_))
  have e : i' = i := (nIx (by omega) (by omega)).mp (by rw [← ea', ea])
  subst e
  exact both g_0 z ⟨_, _, _, _, _, hW', hC', hR', Or.inl ⟨z', y⟩⟩
theorem step_hide (h : InvP Sh σ τ) (hF : ShF Sh) (a b : Int32) : Sp_L_hide a (if b = 0 then 0 else 1) σ g (fun k σ1 g1 => Sp_R_hide a (if b = 0 then 0 else 1) τ (fun bb τ1 => Sp_R_thrown τ1 (fun th τ2 => th = k ∧ (k = 0 → g1 0 = (if bb = 0 then 0 else 1)) ∧ K0 Sh σ1 τ2 g1))) := by
  obtain ⟨T, Gp, Ph, Hd, Th, hW, hC, hR, hS⟩ := id h
  have eb : (if b = 0 then (0 : Int32) else 1) = if decide (¬ b = 0) then 1 else 0 := by
    by_cases q : b = 0 <;> simp [q]
  rw [eb]
  unfold Sp_L_hide
  generalize decide (¬ b = 0) = on
  refine cl_hide hC hW (fun q => ⟨rfl, rf_hide hR hW (fun _ τ' f z => threw (r := 0) (by decide) z (h.frame hF f)) (fun i hi ea => absurd ⟨i, hi, ea⟩ q)⟩) (fun i hi ea => ?_)
  have inj : ∀ i', i' < 16 → a = nI i' → i' = i := fun i' h1 e1 => (nIx (by omega) (by omega)).mp (by rw [← e1, ea])
  refine ⟨fun he σ' hC' z' => rf_hide hR hW (fun q => absurd ⟨i, hi, ea⟩ q) (fun i' h1 e1 => ?_), fun hne σ' hC' hW' z' => rf_hide hR hW (fun q => absurd ⟨i, hi, ea⟩ q) (fun i' h1 e1 => ?_)⟩
  · have e := inj i' h1 e1
    subst e
    exact ⟨fun _ τ' hR' y z => ⟨z, fun _ => (by rw [g_0]), ⟨_, _, _, _, _, hW, hC', hR', Or.inl ⟨z', y⟩⟩⟩, fun q => absurd he q⟩
  · have e := inj i' h1 e1
    subst e
    exact ⟨fun q => absurd q hne, fun _ τ' hR' y z => ⟨z, fun _ => (by rw [g_0]), ⟨_, _, _, _, _, hW', hC', hR', Or.inl ⟨z', y⟩⟩⟩⟩
theorem step_group (h : InvP Sh σ τ) (hF : ShF Sh) (a : Int32) : Sp_L_group a σ g (fun k σ1 g1 => Sp_R_group a τ (fun bb τ1 => Sp_R_thrown τ1 (fun th τ2 => th = k ∧ (k = 0 → g1 0 = bb.toInt64) ∧ K0 Sh σ1 τ2 g1))) := by
  obtain ⟨T, Gp, Ph, Hd, Th, hW, hC, hR, hS⟩ := id h
  unfold Sp_L_group
  refine cl_group hC (fun q => ⟨rfl, rf_group hR (fun _ τ' f z => threw (r := 0) (by decide) z (h.frame hF f)) (fun i hi ea => absurd ⟨i, hi, ea⟩ q)⟩) (fun i hi ea => rf_group hR (fun q => absurd ⟨i, hi, ea⟩ q) (fun i' hi' ea' τ' f z => ?_))
  have e : i' = i := (nIx (by omega) (by omega)).mp (by rw [← ea', ea])
  subst e
  exact both g_0 z (h.frame hF f)
theorem step_misfit (h : InvP Sh σ τ) (hF : ShF Sh) (a b : Int32) : Sp_L_misfit a b σ g (fun k σ1 g1 => Sp_R_misfit a b τ (fun bb τ1 => Sp_R_thrown τ1 (fun th τ2 => th = k ∧ (k = 0 → g1 0 = bb.toInt64) ∧ K0 Sh σ1 τ2 g1))) := by
  obtain ⟨T, Gp, Ph, Hd, Th, hW, hC, hR, hS⟩ := id h
  unfold Sp_L_misfit
  exact cl_misfit hC (fun q => ⟨rfl, rf_misfit hR hW (fun _ τ' f z => threw (r := 0) (by decide) z (h.frame hF f)) (fun q2 => absurd q2 q)⟩) (fun q => rf_misfit hR hW (fun q2 => absurd q q2) (fun _ τ' f z => both g_0 z (h.frame hF f)))
end
